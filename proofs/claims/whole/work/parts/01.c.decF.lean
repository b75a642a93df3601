theorem dX0_init_0 : decode cX0_init 0 = .ok (.aload_n 0, 1) := by decide +kernel
theorem dX0_init_1 : decode cX0_init 1 = .ok (.invokespecial 3, 3) := by decide +kernel
theorem dX0_init_4 : decode cX0_init 4 = .ok (.aload_n 0, 1) := by decide +kernel
theorem dX0_init_5 : decode cX0_init 5 = .ok (.iload_n 1, 1) := by decide +kernel
theorem dX0_init_6 : decode cX0_init 6 = .ok (.putfield 9, 3) := by decide +kernel
theorem dX0_init_9 : decode cX0_init 9 = .ok (.aload_n 0, 1) := by decide +kernel
theorem dX0_init_10 : decode cX0_init 10 = .ok (.aload_n 2, 1) := by decide +kernel
theorem dX0_init_11 : decode cX0_init 11 = .ok (.putfield 15, 3) := by decide +kernel
theorem dX0_init_14 : decode cX0_init 14 = .ok (.aload_n 0, 1) := by decide +kernel
theorem dX0_init_15 : decode cX0_init 15 = .ok (.aload_n 3, 1) := by decide +kernel
theorem dX0_init_16 : decode cX0_init 16 = .ok (.putfield 19, 3) := by decide +kernel
theorem dX0_init_19 : decode cX0_init 19 = .ok (.aload_n 0, 1) := by decide +kernel
theorem dX0_init_20 : decode cX0_init 20 = .ok (.aload 4, 2) := by decide +kernel
theorem dX0_init_22 : decode cX0_init 22 = .ok (.putfield 22, 3) := by decide +kernel
theorem dX0_init_25 : decode cX0_init 25 = .ok (.return_, 1) := by decide +kernel
theorem dX0_canCome_0 : decode cX0_canCome 0 = .ok (.aload_n 0, 1) := by decide +kernel
theorem dX0_canCome_1 : decode cX0_canCome 1 = .ok (.getfield 9, 3) := by decide +kernel
theorem dX0_canCome_4 : decode cX0_canCome 4 = .ok (.iconst 4, 1) := by decide +kernel
theorem dX0_canCome_5 : decode cX0_canCome 5 = .ok (.if_icmp .ne 17, 3) := by decide +kernel
theorem dX0_canCome_8 : decode cX0_canCome 8 = .ok (.aload_n 0, 1) := by decide +kernel
theorem dX0_canCome_9 : decode cX0_canCome 9 = .ok (.getfield 19, 3) := by decide +kernel
theorem dX0_canCome_12 : decode cX0_canCome 12 = .ok (.aload_n 0, 1) := by decide +kernel
theorem dX0_canCome_13 : decode cX0_canCome 13 = .ok (.getfield 22, 3) := by decide +kernel
theorem dX0_canCome_16 : decode cX0_canCome 16 = .ok (.invokevirtual 26, 3) := by decide +kernel
theorem dX0_canCome_19 : decode cX0_canCome 19 = .ok (.ifCond .eq 7, 3) := by decide +kernel
theorem dX0_canCome_22 : decode cX0_canCome 22 = .ok (.iconst 1, 1) := by decide +kernel
theorem dX0_canCome_23 : decode cX0_canCome 23 = .ok (.goto 4, 3) := by decide +kernel
theorem dX0_canCome_26 : decode cX0_canCome 26 = .ok (.iconst 0, 1) := by decide +kernel
theorem dX0_canCome_27 : decode cX0_canCome 27 = .ok (.ireturn, 1) := by decide +kernel
theorem dX1_init_0 : decode cX1_init 0 = .ok (.aload_n 0, 1) := by decide +kernel
theorem dX1_init_1 : decode cX1_init 1 = .ok (.invokespecial 3, 3) := by decide +kernel
theorem dX1_init_4 : decode cX1_init 4 = .ok (.aload_n 0, 1) := by decide +kernel
theorem dX1_init_5 : decode cX1_init 5 = .ok (.iconst 4, 1) := by decide +kernel
theorem dX1_init_6 : decode cX1_init 6 = .ok (.newarray .int, 2) := by decide +kernel
theorem dX1_init_8 : decode cX1_init 8 = .ok (.putfield 9, 3) := by decide +kernel
theorem dX1_init_11 : decode cX1_init 11 = .ok (.aload_n 0, 1) := by decide +kernel
theorem dX1_init_12 : decode cX1_init 12 = .ok (.new 15, 3) := by decide +kernel
theorem dX1_init_15 : decode cX1_init 15 = .ok (.dup, 1) := by decide +kernel
theorem dX1_init_16 : decode cX1_init 16 = .ok (.invokespecial 17, 3) := by decide +kernel
theorem dX1_init_19 : decode cX1_init 19 = .ok (.putfield 18, 3) := by decide +kernel
theorem dX1_init_22 : decode cX1_init 22 = .ok (.aload_n 0, 1) := by decide +kernel
theorem dX1_init_23 : decode cX1_init 23 = .ok (.bipush 12, 2) := by decide +kernel
theorem dX1_init_25 : decode cX1_init 25 = .ok (.newarray .int, 2) := by decide +kernel
theorem dX1_init_27 : decode cX1_init 27 = .ok (.putfield 22, 3) := by decide +kernel
theorem dX1_init_30 : decode cX1_init 30 = .ok (.aload_n 0, 1) := by decide +kernel
theorem dX1_init_31 : decode cX1_init 31 = .ok (.iload_n 1, 1) := by decide +kernel
theorem dX1_init_32 : decode cX1_init 32 = .ok (.putfield 25, 3) := by decide +kernel
theorem dX1_init_35 : decode cX1_init 35 = .ok (.aload_n 0, 1) := by decide +kernel
theorem dX1_init_36 : decode cX1_init 36 = .ok (.getfield 22, 3) := by decide +kernel
theorem dX1_init_39 : decode cX1_init 39 = .ok (.bipush (-4), 2) := by decide +kernel
theorem dX1_init_41 : decode cX1_init 41 = .ok (.invokestatic 29, 3) := by decide +kernel
theorem dX1_init_44 : decode cX1_init 44 = .ok (.return_, 1) := by decide +kernel
theorem dX1_isFree_0 : decode cX1_isFree 0 = .ok (.aload_n 0, 1) := by decide +kernel
theorem dX1_isFree_1 : decode cX1_isFree 1 = .ok (.getfield 22, 3) := by decide +kernel
theorem dX1_isFree_4 : decode cX1_isFree 4 = .ok (.aload_n 1, 1) := by decide +kernel
theorem dX1_isFree_5 : decode cX1_isFree 5 = .ok (.getfield 35, 3) := by decide +kernel
theorem dX1_isFree_8 : decode cX1_isFree 8 = .ok (.iaload, 1) := by decide +kernel
theorem dX1_isFree_9 : decode cX1_isFree 9 = .ok (.bipush (-4), 2) := by decide +kernel
theorem dX1_isFree_11 : decode cX1_isFree 11 = .ok (.if_icmp .eq 5, 3) := by decide +kernel
theorem dX1_isFree_14 : decode cX1_isFree 14 = .ok (.iconst 0, 1) := by decide +kernel
theorem dX1_isFree_15 : decode cX1_isFree 15 = .ok (.ireturn, 1) := by decide +kernel
theorem dX1_isFree_16 : decode cX1_isFree 16 = .ok (.iconst 0, 1) := by decide +kernel
theorem dX1_isFree_17 : decode cX1_isFree 17 = .ok (.istore_n 3, 1) := by decide +kernel
theorem dX1_isFree_18 : decode cX1_isFree 18 = .ok (.iload_n 3, 1) := by decide +kernel
theorem dX1_isFree_19 : decode cX1_isFree 19 = .ok (.aload_n 0, 1) := by decide +kernel
theorem dX1_isFree_20 : decode cX1_isFree 20 = .ok (.getfield 18, 3) := by decide +kernel
theorem dX1_isFree_23 : decode cX1_isFree 23 = .ok (.invokevirtual 38, 3) := by decide +kernel
theorem dX1_isFree_26 : decode cX1_isFree 26 = .ok (.if_icmp .ge 49, 3) := by decide +kernel
theorem dX1_isFree_29 : decode cX1_isFree 29 = .ok (.aload_n 0, 1) := by decide +kernel
theorem dX1_isFree_30 : decode cX1_isFree 30 = .ok (.getfield 18, 3) := by decide +kernel
theorem dX1_isFree_33 : decode cX1_isFree 33 = .ok (.iload_n 3, 1) := by decide +kernel
theorem dX1_isFree_34 : decode cX1_isFree 34 = .ok (.invokevirtual 42, 3) := by decide +kernel
theorem dX1_isFree_37 : decode cX1_isFree 37 = .ok (.checkcast 46, 3) := by decide +kernel
theorem dX1_isFree_40 : decode cX1_isFree 40 = .ok (.astore 4, 2) := by decide +kernel
theorem dX1_isFree_42 : decode cX1_isFree 42 = .ok (.aload 4, 2) := by decide +kernel
theorem dX1_isFree_44 : decode cX1_isFree 44 = .ok (.getfield 48, 3) := by decide +kernel
theorem dX1_isFree_47 : decode cX1_isFree 47 = .ok (.aload_n 1, 1) := by decide +kernel
theorem dX1_isFree_48 : decode cX1_isFree 48 = .ok (.getfield 35, 3) := by decide +kernel
theorem dX1_isFree_51 : decode cX1_isFree 51 = .ok (.baload, 1) := by decide +kernel
theorem dX1_isFree_52 : decode cX1_isFree 52 = .ok (.ifCond .eq 17, 3) := by decide +kernel
theorem dX1_isFree_55 : decode cX1_isFree 55 = .ok (.aload 4, 2) := by decide +kernel
theorem dX1_isFree_57 : decode cX1_isFree 57 = .ok (.aload_n 2, 1) := by decide +kernel
theorem dX1_isFree_58 : decode cX1_isFree 58 = .ok (.getfield 52, 3) := by decide +kernel
theorem dX1_isFree_61 : decode cX1_isFree 61 = .ok (.invokevirtual 55, 3) := by decide +kernel
theorem dX1_isFree_64 : decode cX1_isFree 64 = .ok (.ifCond .ne 5, 3) := by decide +kernel
theorem dX1_isFree_67 : decode cX1_isFree 67 = .ok (.iconst 0, 1) := by decide +kernel
theorem dX1_isFree_68 : decode cX1_isFree 68 = .ok (.ireturn, 1) := by decide +kernel
theorem dX1_isFree_69 : decode cX1_isFree 69 = .ok (.iinc 3 1, 3) := by decide +kernel
theorem dX1_isFree_72 : decode cX1_isFree 72 = .ok (.goto (-54), 3) := by decide +kernel
theorem dX1_isFree_75 : decode cX1_isFree 75 = .ok (.iconst 1, 1) := by decide +kernel
theorem dX1_isFree_76 : decode cX1_isFree 76 = .ok (.ireturn, 1) := by decide +kernel
theorem dX1_valueOf_0 : decode cX1_valueOf 0 = .ok (.aload_n 0, 1) := by decide +kernel
theorem dX1_valueOf_1 : decode cX1_valueOf 1 = .ok (.getfield 18, 3) := by decide +kernel
theorem dX1_valueOf_4 : decode cX1_valueOf 4 = .ok (.invokevirtual 38, 3) := by decide +kernel
theorem dX1_valueOf_7 : decode cX1_valueOf 7 = .ok (.iconst 1, 1) := by decide +kernel
theorem dX1_valueOf_8 : decode cX1_valueOf 8 = .ok (.isub, 1) := by decide +kernel
theorem dX1_valueOf_9 : decode cX1_valueOf 9 = .ok (.istore_n 3, 1) := by decide +kernel
theorem dX1_valueOf_10 : decode cX1_valueOf 10 = .ok (.iload_n 3, 1) := by decide +kernel
theorem dX1_valueOf_11 : decode cX1_valueOf 11 = .ok (.ifCond .lt 55, 3) := by decide +kernel
theorem dX1_valueOf_14 : decode cX1_valueOf 14 = .ok (.aload_n 0, 1) := by decide +kernel
theorem dX1_valueOf_15 : decode cX1_valueOf 15 = .ok (.getfield 18, 3) := by decide +kernel
theorem dX1_valueOf_18 : decode cX1_valueOf 18 = .ok (.iload_n 3, 1) := by decide +kernel
theorem dX1_valueOf_19 : decode cX1_valueOf 19 = .ok (.invokevirtual 42, 3) := by decide +kernel
theorem dX1_valueOf_22 : decode cX1_valueOf 22 = .ok (.checkcast 46, 3) := by decide +kernel
theorem dX1_valueOf_25 : decode cX1_valueOf 25 = .ok (.astore 4, 2) := by decide +kernel
theorem dX1_valueOf_27 : decode cX1_valueOf 27 = .ok (.aload 4, 2) := by decide +kernel
theorem dX1_valueOf_29 : decode cX1_valueOf 29 = .ok (.getfield 48, 3) := by decide +kernel
theorem dX1_valueOf_32 : decode cX1_valueOf 32 = .ok (.aload_n 1, 1) := by decide +kernel
theorem dX1_valueOf_33 : decode cX1_valueOf 33 = .ok (.getfield 35, 3) := by decide +kernel
theorem dX1_valueOf_36 : decode cX1_valueOf 36 = .ok (.baload, 1) := by decide +kernel
theorem dX1_valueOf_37 : decode cX1_valueOf 37 = .ok (.ifCond .eq 23, 3) := by decide +kernel
theorem dX1_valueOf_40 : decode cX1_valueOf 40 = .ok (.aload 4, 2) := by decide +kernel
theorem dX1_valueOf_42 : decode cX1_valueOf 42 = .ok (.aload_n 2, 1) := by decide +kernel
theorem dX1_valueOf_43 : decode cX1_valueOf 43 = .ok (.invokevirtual 55, 3) := by decide +kernel
theorem dX1_valueOf_46 : decode cX1_valueOf 46 = .ok (.ifCond .eq 14, 3) := by decide +kernel
theorem dX1_valueOf_49 : decode cX1_valueOf 49 = .ok (.aload 4, 2) := by decide +kernel
theorem dX1_valueOf_51 : decode cX1_valueOf 51 = .ok (.getfield 59, 3) := by decide +kernel
theorem dX1_valueOf_54 : decode cX1_valueOf 54 = .ok (.aload_n 1, 1) := by decide +kernel
theorem dX1_valueOf_55 : decode cX1_valueOf 55 = .ok (.getfield 35, 3) := by decide +kernel
theorem dX1_valueOf_58 : decode cX1_valueOf 58 = .ok (.laload, 1) := by decide +kernel
theorem dX1_valueOf_59 : decode cX1_valueOf 59 = .ok (.lreturn, 1) := by decide +kernel
theorem dX1_valueOf_60 : decode cX1_valueOf 60 = .ok (.iinc 3 (-1), 3) := by decide +kernel
theorem dX1_valueOf_63 : decode cX1_valueOf 63 = .ok (.goto (-53), 3) := by decide +kernel
theorem dX1_valueOf_66 : decode cX1_valueOf 66 = .ok (.lconst 0, 1) := by decide +kernel
theorem dX1_valueOf_67 : decode cX1_valueOf 67 = .ok (.lreturn, 1) := by decide +kernel
theorem dX1_countOf_0 : decode cX1_countOf 0 = .ok (.lconst 0, 1) := by decide +kernel
theorem dX1_countOf_1 : decode cX1_countOf 1 = .ok (.lstore_n 3, 1) := by decide +kernel
theorem dX1_countOf_2 : decode cX1_countOf 2 = .ok (.iconst 0, 1) := by decide +kernel
theorem dX1_countOf_3 : decode cX1_countOf 3 = .ok (.istore 5, 2) := by decide +kernel
theorem dX1_countOf_5 : decode cX1_countOf 5 = .ok (.iload 5, 2) := by decide +kernel
theorem dX1_countOf_7 : decode cX1_countOf 7 = .ok (.aload_n 0, 1) := by decide +kernel
theorem dX1_countOf_8 : decode cX1_countOf 8 = .ok (.getfield 18, 3) := by decide +kernel
theorem dX1_countOf_11 : decode cX1_countOf 11 = .ok (.invokevirtual 38, 3) := by decide +kernel
theorem dX1_countOf_14 : decode cX1_countOf 14 = .ok (.if_icmp .ge 42, 3) := by decide +kernel
theorem dX1_countOf_17 : decode cX1_countOf 17 = .ok (.aload_n 0, 1) := by decide +kernel
theorem dX1_countOf_18 : decode cX1_countOf 18 = .ok (.getfield 18, 3) := by decide +kernel
theorem dX1_countOf_21 : decode cX1_countOf 21 = .ok (.iload 5, 2) := by decide +kernel
theorem dX1_countOf_23 : decode cX1_countOf 23 = .ok (.invokevirtual 42, 3) := by decide +kernel
theorem dX1_countOf_26 : decode cX1_countOf 26 = .ok (.checkcast 46, 3) := by decide +kernel
theorem dX1_countOf_29 : decode cX1_countOf 29 = .ok (.astore 6, 2) := by decide +kernel
theorem dX1_countOf_31 : decode cX1_countOf 31 = .ok (.aload 6, 2) := by decide +kernel
theorem dX1_countOf_33 : decode cX1_countOf 33 = .ok (.aload_n 2, 1) := by decide +kernel
theorem dX1_countOf_34 : decode cX1_countOf 34 = .ok (.invokevirtual 55, 3) := by decide +kernel
theorem dX1_countOf_37 : decode cX1_countOf 37 = .ok (.ifCond .eq 13, 3) := by decide +kernel
theorem dX1_countOf_40 : decode cX1_countOf 40 = .ok (.lload_n 3, 1) := by decide +kernel
theorem dX1_countOf_41 : decode cX1_countOf 41 = .ok (.aload 6, 2) := by decide +kernel
theorem dX1_countOf_43 : decode cX1_countOf 43 = .ok (.getfield 63, 3) := by decide +kernel
theorem dX1_countOf_46 : decode cX1_countOf 46 = .ok (.iload_n 1, 1) := by decide +kernel
theorem dX1_countOf_47 : decode cX1_countOf 47 = .ok (.laload, 1) := by decide +kernel
theorem dX1_countOf_48 : decode cX1_countOf 48 = .ok (.ladd, 1) := by decide +kernel
theorem dX1_countOf_49 : decode cX1_countOf 49 = .ok (.lstore_n 3, 1) := by decide +kernel
theorem dX1_countOf_50 : decode cX1_countOf 50 = .ok (.iinc 5 1, 3) := by decide +kernel
theorem dX1_countOf_53 : decode cX1_countOf 53 = .ok (.goto (-48), 3) := by decide +kernel
theorem dX1_countOf_56 : decode cX1_countOf 56 = .ok (.lload_n 3, 1) := by decide +kernel
theorem dX1_countOf_57 : decode cX1_countOf 57 = .ok (.lreturn, 1) := by decide +kernel
theorem dX1_canTake_0 : decode cX1_canTake 0 = .ok (.aload_n 0, 1) := by decide +kernel
theorem dX1_canTake_1 : decode cX1_canTake 1 = .ok (.getfield 9, 3) := by decide +kernel
theorem dX1_canTake_4 : decode cX1_canTake 4 = .ok (.aload_n 1, 1) := by decide +kernel
theorem dX1_canTake_5 : decode cX1_canTake 5 = .ok (.getfield 66, 3) := by decide +kernel
theorem dX1_canTake_8 : decode cX1_canTake 8 = .ok (.getfield 25, 3) := by decide +kernel
theorem dX1_canTake_11 : decode cX1_canTake 11 = .ok (.iaload, 1) := by decide +kernel
theorem dX1_canTake_12 : decode cX1_canTake 12 = .ok (.aload_n 1, 1) := by decide +kernel
theorem dX1_canTake_13 : decode cX1_canTake 13 = .ok (.getfield 70, 3) := by decide +kernel
theorem dX1_canTake_16 : decode cX1_canTake 16 = .ok (.iconst 1, 1) := by decide +kernel
theorem dX1_canTake_17 : decode cX1_canTake 17 = .ok (.isub, 1) := by decide +kernel
theorem dX1_canTake_18 : decode cX1_canTake 18 = .ok (.if_icmp .ge 5, 3) := by decide +kernel
theorem dX1_canTake_21 : decode cX1_canTake 21 = .ok (.iconst 0, 1) := by decide +kernel
theorem dX1_canTake_22 : decode cX1_canTake 22 = .ok (.ireturn, 1) := by decide +kernel
theorem dX1_canTake_23 : decode cX1_canTake 23 = .ok (.iconst 0, 1) := by decide +kernel
theorem dX1_canTake_24 : decode cX1_canTake 24 = .ok (.istore_n 2, 1) := by decide +kernel
theorem dX1_canTake_25 : decode cX1_canTake 25 = .ok (.iload_n 2, 1) := by decide +kernel
theorem dX1_canTake_26 : decode cX1_canTake 26 = .ok (.iconst 4, 1) := by decide +kernel
theorem dX1_canTake_27 : decode cX1_canTake 27 = .ok (.if_icmp .ge 26, 3) := by decide +kernel
theorem dX1_canTake_30 : decode cX1_canTake 30 = .ok (.aload_n 0, 1) := by decide +kernel
theorem dX1_canTake_31 : decode cX1_canTake 31 = .ok (.getfield 9, 3) := by decide +kernel
theorem dX1_canTake_34 : decode cX1_canTake 34 = .ok (.iload_n 2, 1) := by decide +kernel
theorem dX1_canTake_35 : decode cX1_canTake 35 = .ok (.iaload, 1) := by decide +kernel
theorem dX1_canTake_36 : decode cX1_canTake 36 = .ok (.aload_n 1, 1) := by decide +kernel
theorem dX1_canTake_37 : decode cX1_canTake 37 = .ok (.getfield 52, 3) := by decide +kernel
theorem dX1_canTake_40 : decode cX1_canTake 40 = .ok (.iload_n 2, 1) := by decide +kernel
theorem dX1_canTake_41 : decode cX1_canTake 41 = .ok (.iaload, 1) := by decide +kernel
theorem dX1_canTake_42 : decode cX1_canTake 42 = .ok (.if_icmp .ge 5, 3) := by decide +kernel
theorem dX1_canTake_45 : decode cX1_canTake 45 = .ok (.iconst 0, 1) := by decide +kernel
theorem dX1_canTake_46 : decode cX1_canTake 46 = .ok (.ireturn, 1) := by decide +kernel
theorem dX1_canTake_47 : decode cX1_canTake 47 = .ok (.iinc 2 1, 3) := by decide +kernel
theorem dX1_canTake_50 : decode cX1_canTake 50 = .ok (.goto (-25), 3) := by decide +kernel
theorem dX1_canTake_53 : decode cX1_canTake 53 = .ok (.iconst 1, 1) := by decide +kernel
theorem dX1_canTake_54 : decode cX1_canTake 54 = .ok (.ireturn, 1) := by decide +kernel
theorem dX1_take_0 : decode cX1_take 0 = .ok (.aload_n 0, 1) := by decide +kernel
theorem dX1_take_1 : decode cX1_take 1 = .ok (.getfield 9, 3) := by decide +kernel
theorem dX1_take_4 : decode cX1_take 4 = .ok (.aload_n 1, 1) := by decide +kernel
theorem dX1_take_5 : decode cX1_take 5 = .ok (.getfield 66, 3) := by decide +kernel
theorem dX1_take_8 : decode cX1_take 8 = .ok (.getfield 25, 3) := by decide +kernel
theorem dX1_take_11 : decode cX1_take 11 = .ok (.dup2, 1) := by decide +kernel
theorem dX1_take_12 : decode cX1_take 12 = .ok (.iaload, 1) := by decide +kernel
theorem dX1_take_13 : decode cX1_take 13 = .ok (.iconst 1, 1) := by decide +kernel
theorem dX1_take_14 : decode cX1_take 14 = .ok (.iadd, 1) := by decide +kernel
theorem dX1_take_15 : decode cX1_take 15 = .ok (.iastore, 1) := by decide +kernel
theorem dX1_take_16 : decode cX1_take 16 = .ok (.aload_n 0, 1) := by decide +kernel
theorem dX1_take_17 : decode cX1_take 17 = .ok (.getfield 18, 3) := by decide +kernel
theorem dX1_take_20 : decode cX1_take 20 = .ok (.aload_n 1, 1) := by decide +kernel
theorem dX1_take_21 : decode cX1_take 21 = .ok (.invokevirtual 73, 3) := by decide +kernel
theorem dX1_take_24 : decode cX1_take 24 = .ok (.pop, 1) := by decide +kernel
theorem dX1_take_25 : decode cX1_take 25 = .ok (.aload_n 0, 1) := by decide +kernel
theorem dX1_take_26 : decode cX1_take 26 = .ok (.aload_n 1, 1) := by decide +kernel
theorem dX1_take_27 : decode cX1_take 27 = .ok (.invokevirtual 77, 3) := by decide +kernel
theorem dX1_take_30 : decode cX1_take 30 = .ok (.return_, 1) := by decide +kernel
theorem dX1_unlock_0 : decode cX1_unlock 0 = .ok (.iconst 0, 1) := by decide +kernel
theorem dX1_unlock_1 : decode cX1_unlock 1 = .ok (.istore_n 2, 1) := by decide +kernel
theorem dX1_unlock_2 : decode cX1_unlock 2 = .ok (.iload_n 2, 1) := by decide +kernel
theorem dX1_unlock_3 : decode cX1_unlock 3 = .ok (.bipush 12, 2) := by decide +kernel
theorem dX1_unlock_5 : decode cX1_unlock 5 = .ok (.if_icmp .ge 30, 3) := by decide +kernel
theorem dX1_unlock_8 : decode cX1_unlock 8 = .ok (.aload_n 0, 1) := by decide +kernel
theorem dX1_unlock_9 : decode cX1_unlock 9 = .ok (.getfield 22, 3) := by decide +kernel
theorem dX1_unlock_12 : decode cX1_unlock 12 = .ok (.iload_n 2, 1) := by decide +kernel
theorem dX1_unlock_13 : decode cX1_unlock 13 = .ok (.iaload, 1) := by decide +kernel
theorem dX1_unlock_14 : decode cX1_unlock 14 = .ok (.aload_n 1, 1) := by decide +kernel
theorem dX1_unlock_15 : decode cX1_unlock 15 = .ok (.getfield 81, 3) := by decide +kernel
theorem dX1_unlock_18 : decode cX1_unlock 18 = .ok (.if_icmp .ne 11, 3) := by decide +kernel
theorem dX1_unlock_21 : decode cX1_unlock 21 = .ok (.aload_n 0, 1) := by decide +kernel
theorem dX1_unlock_22 : decode cX1_unlock 22 = .ok (.getfield 22, 3) := by decide +kernel
theorem dX1_unlock_25 : decode cX1_unlock 25 = .ok (.iload_n 2, 1) := by decide +kernel
theorem dX1_unlock_26 : decode cX1_unlock 26 = .ok (.bipush (-4), 2) := by decide +kernel
theorem dX1_unlock_28 : decode cX1_unlock 28 = .ok (.iastore, 1) := by decide +kernel
theorem dX1_unlock_29 : decode cX1_unlock 29 = .ok (.iinc 2 1, 3) := by decide +kernel
theorem dX1_unlock_32 : decode cX1_unlock 32 = .ok (.goto (-30), 3) := by decide +kernel
theorem dX1_unlock_35 : decode cX1_unlock 35 = .ok (.return_, 1) := by decide +kernel
theorem dX1_howManyLocked_0 : decode cX1_howManyLocked 0 = .ok (.iconst 0, 1) := by decide +kernel
theorem dX1_howManyLocked_1 : decode cX1_howManyLocked 1 = .ok (.istore_n 1, 1) := by decide +kernel
theorem dX1_howManyLocked_2 : decode cX1_howManyLocked 2 = .ok (.iconst 0, 1) := by decide +kernel
theorem dX1_howManyLocked_3 : decode cX1_howManyLocked 3 = .ok (.istore_n 2, 1) := by decide +kernel
theorem dX1_howManyLocked_4 : decode cX1_howManyLocked 4 = .ok (.iload_n 2, 1) := by decide +kernel
theorem dX1_howManyLocked_5 : decode cX1_howManyLocked 5 = .ok (.bipush 12, 2) := by decide +kernel
theorem dX1_howManyLocked_7 : decode cX1_howManyLocked 7 = .ok (.if_icmp .ge 31, 3) := by decide +kernel
theorem dX1_howManyLocked_10 : decode cX1_howManyLocked 10 = .ok (.iload_n 1, 1) := by decide +kernel
theorem dX1_howManyLocked_11 : decode cX1_howManyLocked 11 = .ok (.aload_n 0, 1) := by decide +kernel
theorem dX1_howManyLocked_12 : decode cX1_howManyLocked 12 = .ok (.getfield 22, 3) := by decide +kernel
theorem dX1_howManyLocked_15 : decode cX1_howManyLocked 15 = .ok (.iload_n 2, 1) := by decide +kernel
theorem dX1_howManyLocked_16 : decode cX1_howManyLocked 16 = .ok (.iaload, 1) := by decide +kernel
theorem dX1_howManyLocked_17 : decode cX1_howManyLocked 17 = .ok (.bipush (-4), 2) := by decide +kernel
theorem dX1_howManyLocked_19 : decode cX1_howManyLocked 19 = .ok (.if_icmp .eq 7, 3) := by decide +kernel
theorem dX1_howManyLocked_22 : decode cX1_howManyLocked 22 = .ok (.iconst 1, 1) := by decide +kernel
theorem dX1_howManyLocked_23 : decode cX1_howManyLocked 23 = .ok (.goto 4, 3) := by decide +kernel
theorem dX1_howManyLocked_26 : decode cX1_howManyLocked 26 = .ok (.iconst 0, 1) := by decide +kernel
theorem dX1_howManyLocked_27 : decode cX1_howManyLocked 27 = .ok (.invokestatic 82, 3) := by decide +kernel
theorem dX1_howManyLocked_30 : decode cX1_howManyLocked 30 = .ok (.iadd, 1) := by decide +kernel
theorem dX1_howManyLocked_31 : decode cX1_howManyLocked 31 = .ok (.istore_n 1, 1) := by decide +kernel
theorem dX1_howManyLocked_32 : decode cX1_howManyLocked 32 = .ok (.iinc 2 1, 3) := by decide +kernel
theorem dX1_howManyLocked_35 : decode cX1_howManyLocked 35 = .ok (.goto (-31), 3) := by decide +kernel
theorem dX1_howManyLocked_38 : decode cX1_howManyLocked 38 = .ok (.iload_n 1, 1) := by decide +kernel
theorem dX1_howManyLocked_39 : decode cX1_howManyLocked 39 = .ok (.ireturn, 1) := by decide +kernel
theorem dX2_init_0 : decode cX2_init 0 = .ok (.aload_n 0, 1) := by decide +kernel
theorem dX2_init_1 : decode cX2_init 1 = .ok (.invokespecial 3, 3) := by decide +kernel
theorem dX2_init_4 : decode cX2_init 4 = .ok (.aload_n 0, 1) := by decide +kernel
theorem dX2_init_5 : decode cX2_init 5 = .ok (.iload_n 1, 1) := by decide +kernel
theorem dX2_init_6 : decode cX2_init 6 = .ok (.putfield 9, 3) := by decide +kernel
theorem dX2_init_9 : decode cX2_init 9 = .ok (.aload_n 0, 1) := by decide +kernel
theorem dX2_init_10 : decode cX2_init 10 = .ok (.aload_n 2, 1) := by decide +kernel
theorem dX2_init_11 : decode cX2_init 11 = .ok (.putfield 15, 3) := by decide +kernel
theorem dX2_init_14 : decode cX2_init 14 = .ok (.aload_n 0, 1) := by decide +kernel
theorem dX2_init_15 : decode cX2_init 15 = .ok (.iload_n 3, 1) := by decide +kernel
theorem dX2_init_16 : decode cX2_init 16 = .ok (.putfield 19, 3) := by decide +kernel
theorem dX2_init_19 : decode cX2_init 19 = .ok (.return_, 1) := by decide +kernel
theorem dX2_slotOf_0 : decode cX2_slotOf 0 = .ok (.aload_n 0, 1) := by decide +kernel
theorem dX2_slotOf_1 : decode cX2_slotOf 1 = .ok (.getfield 9, 3) := by decide +kernel
theorem dX2_slotOf_4 : decode cX2_slotOf 4 = .ok (.bipush 8, 2) := by decide +kernel
theorem dX2_slotOf_6 : decode cX2_slotOf 6 = .ok (.imul, 1) := by decide +kernel
theorem dX2_slotOf_7 : decode cX2_slotOf 7 = .ok (.iload_n 1, 1) := by decide +kernel
theorem dX2_slotOf_8 : decode cX2_slotOf 8 = .ok (.iadd, 1) := by decide +kernel
theorem dX2_slotOf_9 : decode cX2_slotOf 9 = .ok (.ireturn, 1) := by decide +kernel
theorem dX3_init_0 : decode cX3_init 0 = .ok (.aload_n 0, 1) := by decide +kernel
theorem dX3_init_1 : decode cX3_init 1 = .ok (.invokespecial 3, 3) := by decide +kernel
theorem dX3_init_4 : decode cX3_init 4 = .ok (.aload_n 0, 1) := by decide +kernel
theorem dX3_init_5 : decode cX3_init 5 = .ok (.bipush 12, 2) := by decide +kernel
theorem dX3_init_7 : decode cX3_init 7 = .ok (.newarray .boolean, 2) := by decide +kernel
theorem dX3_init_9 : decode cX3_init 9 = .ok (.putfield 9, 3) := by decide +kernel
theorem dX3_init_12 : decode cX3_init 12 = .ok (.aload_n 0, 1) := by decide +kernel
theorem dX3_init_13 : decode cX3_init 13 = .ok (.bipush 12, 2) := by decide +kernel
theorem dX3_init_15 : decode cX3_init 15 = .ok (.newarray .long, 2) := by decide +kernel
theorem dX3_init_17 : decode cX3_init 17 = .ok (.putfield 15, 3) := by decide +kernel
theorem dX3_init_20 : decode cX3_init 20 = .ok (.aload_n 0, 1) := by decide +kernel
theorem dX3_init_21 : decode cX3_init 21 = .ok (.bipush 96, 2) := by decide +kernel
theorem dX3_init_23 : decode cX3_init 23 = .ok (.newarray .long, 2) := by decide +kernel
theorem dX3_init_25 : decode cX3_init 25 = .ok (.putfield 19, 3) := by decide +kernel
theorem dX3_init_28 : decode cX3_init 28 = .ok (.aload_n 0, 1) := by decide +kernel
theorem dX3_init_29 : decode cX3_init 29 = .ok (.iconst 4, 1) := by decide +kernel
theorem dX3_init_30 : decode cX3_init 30 = .ok (.newarray .boolean, 2) := by decide +kernel
theorem dX3_init_32 : decode cX3_init 32 = .ok (.putfield 22, 3) := by decide +kernel
theorem dX3_init_35 : decode cX3_init 35 = .ok (.aload_n 0, 1) := by decide +kernel
theorem dX3_init_36 : decode cX3_init 36 = .ok (.iconst 0, 1) := by decide +kernel
theorem dX3_init_37 : decode cX3_init 37 = .ok (.putfield 25, 3) := by decide +kernel
theorem dX3_init_40 : decode cX3_init 40 = .ok (.aload_n 0, 1) := by decide +kernel
theorem dX3_init_41 : decode cX3_init 41 = .ok (.iload_n 1, 1) := by decide +kernel
theorem dX3_init_42 : decode cX3_init 42 = .ok (.putfield 29, 3) := by decide +kernel
theorem dX3_init_45 : decode cX3_init 45 = .ok (.aload_n 0, 1) := by decide +kernel
theorem dX3_init_46 : decode cX3_init 46 = .ok (.aload_n 2, 1) := by decide +kernel
theorem dX3_init_47 : decode cX3_init 47 = .ok (.putfield 32, 3) := by decide +kernel
theorem dX3_init_50 : decode cX3_init 50 = .ok (.aload_n 0, 1) := by decide +kernel
theorem dX3_init_51 : decode cX3_init 51 = .ok (.aload_n 2, 1) := by decide +kernel
theorem dX3_init_52 : decode cX3_init 52 = .ok (.getfield 36, 3) := by decide +kernel
theorem dX3_init_55 : decode cX3_init 55 = .ok (.invokevirtual 42, 3) := by decide +kernel
theorem dX3_init_58 : decode cX3_init 58 = .ok (.checkcast 43, 3) := by decide +kernel
theorem dX3_init_61 : decode cX3_init 61 = .ok (.putfield 47, 3) := by decide +kernel
theorem dX3_init_64 : decode cX3_init 64 = .ok (.return_, 1) := by decide +kernel
theorem dX3_put_0 : decode cX3_put 0 = .ok (.aload_n 0, 1) := by decide +kernel
theorem dX3_put_1 : decode cX3_put 1 = .ok (.getfield 9, 3) := by decide +kernel
theorem dX3_put_4 : decode cX3_put 4 = .ok (.aload_n 1, 1) := by decide +kernel
theorem dX3_put_5 : decode cX3_put 5 = .ok (.getfield 50, 3) := by decide +kernel
theorem dX3_put_8 : decode cX3_put 8 = .ok (.baload, 1) := by decide +kernel
theorem dX3_put_9 : decode cX3_put 9 = .ok (.ifCond .ne 23, 3) := by decide +kernel
theorem dX3_put_12 : decode cX3_put 12 = .ok (.aload_n 0, 1) := by decide +kernel
theorem dX3_put_13 : decode cX3_put 13 = .ok (.getfield 9, 3) := by decide +kernel
theorem dX3_put_16 : decode cX3_put 16 = .ok (.aload_n 1, 1) := by decide +kernel
theorem dX3_put_17 : decode cX3_put 17 = .ok (.getfield 50, 3) := by decide +kernel
theorem dX3_put_20 : decode cX3_put 20 = .ok (.iconst 1, 1) := by decide +kernel
theorem dX3_put_21 : decode cX3_put 21 = .ok (.bastore, 1) := by decide +kernel
theorem dX3_put_22 : decode cX3_put 22 = .ok (.aload_n 0, 1) := by decide +kernel
theorem dX3_put_23 : decode cX3_put 23 = .ok (.dup, 1) := by decide +kernel
theorem dX3_put_24 : decode cX3_put 24 = .ok (.getfield 53, 3) := by decide +kernel
theorem dX3_put_27 : decode cX3_put 27 = .ok (.iconst 1, 1) := by decide +kernel
theorem dX3_put_28 : decode cX3_put 28 = .ok (.iadd, 1) := by decide +kernel
theorem dX3_put_29 : decode cX3_put 29 = .ok (.putfield 53, 3) := by decide +kernel
theorem dX3_put_32 : decode cX3_put 32 = .ok (.aload_n 0, 1) := by decide +kernel
theorem dX3_put_33 : decode cX3_put 33 = .ok (.getfield 15, 3) := by decide +kernel
theorem dX3_put_36 : decode cX3_put 36 = .ok (.aload_n 1, 1) := by decide +kernel
theorem dX3_put_37 : decode cX3_put 37 = .ok (.getfield 50, 3) := by decide +kernel
theorem dX3_put_40 : decode cX3_put 40 = .ok (.lload_n 2, 1) := by decide +kernel
theorem dX3_put_41 : decode cX3_put 41 = .ok (.lastore, 1) := by decide +kernel
theorem dX3_put_42 : decode cX3_put 42 = .ok (.return_, 1) := by decide +kernel
theorem dX3_addTo_0 : decode cX3_addTo 0 = .ok (.aload_n 0, 1) := by decide +kernel
theorem dX3_addTo_1 : decode cX3_addTo 1 = .ok (.getfield 19, 3) := by decide +kernel
theorem dX3_addTo_4 : decode cX3_addTo 4 = .ok (.iload_n 1, 1) := by decide +kernel
theorem dX3_addTo_5 : decode cX3_addTo 5 = .ok (.dup2, 1) := by decide +kernel
theorem dX3_addTo_6 : decode cX3_addTo 6 = .ok (.laload, 1) := by decide +kernel
theorem dX3_addTo_7 : decode cX3_addTo 7 = .ok (.iload_n 2, 1) := by decide +kernel
theorem dX3_addTo_8 : decode cX3_addTo 8 = .ok (.i2l, 1) := by decide +kernel
theorem dX3_addTo_9 : decode cX3_addTo 9 = .ok (.ladd, 1) := by decide +kernel
theorem dX3_addTo_10 : decode cX3_addTo 10 = .ok (.lastore, 1) := by decide +kernel
theorem dX3_addTo_11 : decode cX3_addTo 11 = .ok (.aload_n 0, 1) := by decide +kernel
theorem dX3_addTo_12 : decode cX3_addTo 12 = .ok (.iconst 1, 1) := by decide +kernel
theorem dX3_addTo_13 : decode cX3_addTo 13 = .ok (.putfield 56, 3) := by decide +kernel
theorem dX3_addTo_16 : decode cX3_addTo 16 = .ok (.return_, 1) := by decide +kernel
theorem dX3_wroteAnything_0 : decode cX3_wroteAnything 0 = .ok (.aload_n 0, 1) := by decide +kernel
theorem dX3_wroteAnything_1 : decode cX3_wroteAnything 1 = .ok (.getfield 53, 3) := by decide +kernel
theorem dX3_wroteAnything_4 : decode cX3_wroteAnything 4 = .ok (.ifCond .gt 10, 3) := by decide +kernel
theorem dX3_wroteAnything_7 : decode cX3_wroteAnything 7 = .ok (.aload_n 0, 1) := by decide +kernel
theorem dX3_wroteAnything_8 : decode cX3_wroteAnything 8 = .ok (.getfield 56, 3) := by decide +kernel
theorem dX3_wroteAnything_11 : decode cX3_wroteAnything 11 = .ok (.ifCond .eq 7, 3) := by decide +kernel
theorem dX3_wroteAnything_14 : decode cX3_wroteAnything 14 = .ok (.iconst 1, 1) := by decide +kernel
theorem dX3_wroteAnything_15 : decode cX3_wroteAnything 15 = .ok (.goto 4, 3) := by decide +kernel
theorem dX3_wroteAnything_18 : decode cX3_wroteAnything 18 = .ok (.iconst 0, 1) := by decide +kernel
theorem dX3_wroteAnything_19 : decode cX3_wroteAnything 19 = .ok (.ireturn, 1) := by decide +kernel
theorem dX3_hasCommit_0 : decode cX3_hasCommit 0 = .ok (.aload_n 0, 1) := by decide +kernel
theorem dX3_hasCommit_1 : decode cX3_hasCommit 1 = .ok (.getfield 60, 3) := by decide +kernel
theorem dX3_hasCommit_4 : decode cX3_hasCommit 4 = .ok (.ifCond .le 7, 3) := by decide +kernel
theorem dX3_hasCommit_7 : decode cX3_hasCommit 7 = .ok (.iconst 1, 1) := by decide +kernel
theorem dX3_hasCommit_8 : decode cX3_hasCommit 8 = .ok (.goto 4, 3) := by decide +kernel
theorem dX3_hasCommit_11 : decode cX3_hasCommit 11 = .ok (.iconst 0, 1) := by decide +kernel
theorem dX3_hasCommit_12 : decode cX3_hasCommit 12 = .ok (.ireturn, 1) := by decide +kernel
theorem dX3_isWithin_0 : decode cX3_isWithin 0 = .ok (.aload_n 0, 1) := by decide +kernel
theorem dX3_isWithin_1 : decode cX3_isWithin 1 = .ok (.invokevirtual 63, 3) := by decide +kernel
theorem dX3_isWithin_4 : decode cX3_isWithin 4 = .ok (.ifCond .eq 23, 3) := by decide +kernel
theorem dX3_isWithin_7 : decode cX3_isWithin 7 = .ok (.aload_n 0, 1) := by decide +kernel
theorem dX3_isWithin_8 : decode cX3_isWithin 8 = .ok (.getfield 60, 3) := by decide +kernel
theorem dX3_isWithin_11 : decode cX3_isWithin 11 = .ok (.aload_n 1, 1) := by decide +kernel
theorem dX3_isWithin_12 : decode cX3_isWithin 12 = .ok (.aload_n 0, 1) := by decide +kernel
theorem dX3_isWithin_13 : decode cX3_isWithin 13 = .ok (.getfield 32, 3) := by decide +kernel
theorem dX3_isWithin_16 : decode cX3_isWithin 16 = .ok (.getfield 67, 3) := by decide +kernel
theorem dX3_isWithin_19 : decode cX3_isWithin 19 = .ok (.iaload, 1) := by decide +kernel
theorem dX3_isWithin_20 : decode cX3_isWithin 20 = .ok (.if_icmp .gt 7, 3) := by decide +kernel
theorem dX3_isWithin_23 : decode cX3_isWithin 23 = .ok (.iconst 1, 1) := by decide +kernel
theorem dX3_isWithin_24 : decode cX3_isWithin 24 = .ok (.goto 4, 3) := by decide +kernel
theorem dX3_isWithin_27 : decode cX3_isWithin 27 = .ok (.iconst 0, 1) := by decide +kernel
theorem dX3_isWithin_28 : decode cX3_isWithin 28 = .ok (.ireturn, 1) := by decide +kernel
theorem dX4_init_0 : decode cX4_init 0 = .ok (.aload_n 0, 1) := by decide +kernel
theorem dX4_init_1 : decode cX4_init 1 = .ok (.invokespecial 1, 3) := by decide +kernel
theorem dX4_init_4 : decode cX4_init 4 = .ok (.aload_n 0, 1) := by decide +kernel
theorem dX4_init_5 : decode cX4_init 5 = .ok (.iconst 4, 1) := by decide +kernel
theorem dX4_init_6 : decode cX4_init 6 = .ok (.anewarray 9, 3) := by decide +kernel
theorem dX4_init_9 : decode cX4_init 9 = .ok (.putfield 11, 3) := by decide +kernel
theorem dX4_init_12 : decode cX4_init 12 = .ok (.aload_n 0, 1) := by decide +kernel
theorem dX4_init_13 : decode cX4_init 13 = .ok (.iconst 3, 1) := by decide +kernel
theorem dX4_init_14 : decode cX4_init 14 = .ok (.putfield 15, 3) := by decide +kernel
theorem dX4_init_17 : decode cX4_init 17 = .ok (.aload_n 0, 1) := by decide +kernel
theorem dX4_init_18 : decode cX4_init 18 = .ok (.iconst 1, 1) := by decide +kernel
theorem dX4_init_19 : decode cX4_init 19 = .ok (.putfield 19, 3) := by decide +kernel
theorem dX4_init_22 : decode cX4_init 22 = .ok (.aload_n 0, 1) := by decide +kernel
theorem dX4_init_23 : decode cX4_init 23 = .ok (.new 22, 3) := by decide +kernel
theorem dX4_init_26 : decode cX4_init 26 = .ok (.dup, 1) := by decide +kernel
theorem dX4_init_27 : decode cX4_init 27 = .ok (.invokespecial 24, 3) := by decide +kernel
theorem dX4_init_30 : decode cX4_init 30 = .ok (.putfield 25, 3) := by decide +kernel
theorem dX4_init_33 : decode cX4_init 33 = .ok (.aload_n 0, 1) := by decide +kernel
theorem dX4_init_34 : decode cX4_init 34 = .ok (.new 22, 3) := by decide +kernel
theorem dX4_init_37 : decode cX4_init 37 = .ok (.dup, 1) := by decide +kernel
theorem dX4_init_38 : decode cX4_init 38 = .ok (.invokespecial 24, 3) := by decide +kernel
theorem dX4_init_41 : decode cX4_init 41 = .ok (.putfield 29, 3) := by decide +kernel
theorem dX4_init_44 : decode cX4_init 44 = .ok (.aload_n 0, 1) := by decide +kernel
theorem dX4_init_45 : decode cX4_init 45 = .ok (.new 22, 3) := by decide +kernel
theorem dX4_init_48 : decode cX4_init 48 = .ok (.dup, 1) := by decide +kernel
theorem dX4_init_49 : decode cX4_init 49 = .ok (.invokespecial 24, 3) := by decide +kernel
theorem dX4_init_52 : decode cX4_init 52 = .ok (.putfield 32, 3) := by decide +kernel
theorem dX4_init_55 : decode cX4_init 55 = .ok (.iconst 0, 1) := by decide +kernel
theorem dX4_init_56 : decode cX4_init 56 = .ok (.istore_n 1, 1) := by decide +kernel
theorem dX4_init_57 : decode cX4_init 57 = .ok (.iload_n 1, 1) := by decide +kernel
theorem dX4_init_58 : decode cX4_init 58 = .ok (.iconst 4, 1) := by decide +kernel
theorem dX4_init_59 : decode cX4_init 59 = .ok (.if_icmp .ge 23, 3) := by decide +kernel
theorem dX4_init_62 : decode cX4_init 62 = .ok (.aload_n 0, 1) := by decide +kernel
theorem dX4_init_63 : decode cX4_init 63 = .ok (.getfield 11, 3) := by decide +kernel
theorem dX4_init_66 : decode cX4_init 66 = .ok (.iload_n 1, 1) := by decide +kernel
theorem dX4_init_67 : decode cX4_init 67 = .ok (.new 9, 3) := by decide +kernel
theorem dX4_init_70 : decode cX4_init 70 = .ok (.dup, 1) := by decide +kernel
theorem dX4_init_71 : decode cX4_init 71 = .ok (.iload_n 1, 1) := by decide +kernel
theorem dX4_init_72 : decode cX4_init 72 = .ok (.invokespecial 35, 3) := by decide +kernel
theorem dX4_init_75 : decode cX4_init 75 = .ok (.aastore, 1) := by decide +kernel
theorem dX4_init_76 : decode cX4_init 76 = .ok (.iinc 1 1, 3) := by decide +kernel
theorem dX4_init_79 : decode cX4_init 79 = .ok (.goto (-22), 3) := by decide +kernel
theorem dX4_init_82 : decode cX4_init 82 = .ok (.return_, 1) := by decide +kernel
theorem dX4_sites_0 : decode cX4_sites 0 = .ok (.iload_n 1, 1) := by decide +kernel
theorem dX4_sites_1 : decode cX4_sites 1 = .ok (.iconst 2, 1) := by decide +kernel
theorem dX4_sites_2 : decode cX4_sites 2 = .ok (.if_icmp .lt 19, 3) := by decide +kernel
theorem dX4_sites_5 : decode cX4_sites 5 = .ok (.iload_n 1, 1) := by decide +kernel
theorem dX4_sites_6 : decode cX4_sites 6 = .ok (.iconst 4, 1) := by decide +kernel
theorem dX4_sites_7 : decode cX4_sites 7 = .ok (.if_icmp .gt 14, 3) := by decide +kernel
theorem dX4_sites_10 : decode cX4_sites 10 = .ok (.iload_n 2, 1) := by decide +kernel
theorem dX4_sites_11 : decode cX4_sites 11 = .ok (.ifCond .lt 10, 3) := by decide +kernel
theorem dX4_sites_14 : decode cX4_sites 14 = .ok (.iload_n 2, 1) := by decide +kernel
theorem dX4_sites_15 : decode cX4_sites 15 = .ok (.iload_n 1, 1) := by decide +kernel
theorem dX4_sites_16 : decode cX4_sites 16 = .ok (.iconst 1, 1) := by decide +kernel
theorem dX4_sites_17 : decode cX4_sites 17 = .ok (.isub, 1) := by decide +kernel
theorem dX4_sites_18 : decode cX4_sites 18 = .ok (.if_icmp .le 5, 3) := by decide +kernel
theorem dX4_sites_21 : decode cX4_sites 21 = .ok (.iconst (-1), 1) := by decide +kernel
theorem dX4_sites_22 : decode cX4_sites 22 = .ok (.ireturn, 1) := by decide +kernel
theorem dX4_sites_23 : decode cX4_sites 23 = .ok (.aload_n 0, 1) := by decide +kernel
theorem dX4_sites_24 : decode cX4_sites 24 = .ok (.getfield 25, 3) := by decide +kernel
theorem dX4_sites_27 : decode cX4_sites 27 = .ok (.invokevirtual 38, 3) := by decide +kernel
theorem dX4_sites_30 : decode cX4_sites 30 = .ok (.ifCond .eq 13, 3) := by decide +kernel
theorem dX4_sites_33 : decode cX4_sites 33 = .ok (.aload_n 0, 1) := by decide +kernel
theorem dX4_sites_34 : decode cX4_sites 34 = .ok (.getfield 29, 3) := by decide +kernel
theorem dX4_sites_37 : decode cX4_sites 37 = .ok (.invokevirtual 38, 3) := by decide +kernel
theorem dX4_sites_40 : decode cX4_sites 40 = .ok (.ifCond .ne 6, 3) := by decide +kernel
theorem dX4_sites_43 : decode cX4_sites 43 = .ok (.bipush (-2), 2) := by decide +kernel
theorem dX4_sites_45 : decode cX4_sites 45 = .ok (.ireturn, 1) := by decide +kernel
theorem dX4_sites_46 : decode cX4_sites 46 = .ok (.aload_n 0, 1) := by decide +kernel
theorem dX4_sites_47 : decode cX4_sites 47 = .ok (.iload_n 1, 1) := by decide +kernel
theorem dX4_sites_48 : decode cX4_sites 48 = .ok (.putfield 15, 3) := by decide +kernel
theorem dX4_sites_51 : decode cX4_sites 51 = .ok (.aload_n 0, 1) := by decide +kernel
theorem dX4_sites_52 : decode cX4_sites 52 = .ok (.iload_n 2, 1) := by decide +kernel
theorem dX4_sites_53 : decode cX4_sites 53 = .ok (.putfield 19, 3) := by decide +kernel
theorem dX4_sites_56 : decode cX4_sites 56 = .ok (.iconst 1, 1) := by decide +kernel
theorem dX4_sites_57 : decode cX4_sites 57 = .ok (.ireturn, 1) := by decide +kernel
theorem dX4_thing_0 : decode cX4_thing 0 = .ok (.aload_n 0, 1) := by decide +kernel
theorem dX4_thing_1 : decode cX4_thing 1 = .ok (.iload_n 1, 1) := by decide +kernel
theorem dX4_thing_2 : decode cX4_thing 2 = .ok (.invokevirtual 42, 3) := by decide +kernel
theorem dX4_thing_5 : decode cX4_thing 5 = .ok (.astore_n 3, 1) := by decide +kernel
theorem dX4_thing_6 : decode cX4_thing 6 = .ok (.aload_n 3, 1) := by decide +kernel
theorem dX4_thing_7 : decode cX4_thing 7 = .ok (.ifnonnull 5, 3) := by decide +kernel
theorem dX4_thing_10 : decode cX4_thing 10 = .ok (.iconst (-1), 1) := by decide +kernel
theorem dX4_thing_11 : decode cX4_thing 11 = .ok (.ireturn, 1) := by decide +kernel
theorem dX4_thing_12 : decode cX4_thing 12 = .ok (.aload_n 0, 1) := by decide +kernel
theorem dX4_thing_13 : decode cX4_thing 13 = .ok (.getfield 25, 3) := by decide +kernel
theorem dX4_thing_16 : decode cX4_thing 16 = .ok (.invokevirtual 46, 3) := by decide +kernel
theorem dX4_thing_19 : decode cX4_thing 19 = .ok (.istore 4, 2) := by decide +kernel
theorem dX4_thing_21 : decode cX4_thing 21 = .ok (.iload 4, 2) := by decide +kernel
theorem dX4_thing_23 : decode cX4_thing 23 = .ok (.bipush 12, 2) := by decide +kernel
theorem dX4_thing_25 : decode cX4_thing 25 = .ok (.if_icmp .lt 6, 3) := by decide +kernel
theorem dX4_thing_28 : decode cX4_thing 28 = .ok (.bipush (-3), 2) := by decide +kernel
theorem dX4_thing_30 : decode cX4_thing 30 = .ok (.ireturn, 1) := by decide +kernel
theorem dX4_thing_31 : decode cX4_thing 31 = .ok (.aload_n 0, 1) := by decide +kernel
theorem dX4_thing_32 : decode cX4_thing 32 = .ok (.getfield 25, 3) := by decide +kernel
theorem dX4_thing_35 : decode cX4_thing 35 = .ok (.new 50, 3) := by decide +kernel
theorem dX4_thing_38 : decode cX4_thing 38 = .ok (.dup, 1) := by decide +kernel
theorem dX4_thing_39 : decode cX4_thing 39 = .ok (.iload 4, 2) := by decide +kernel
theorem dX4_thing_41 : decode cX4_thing 41 = .ok (.aload_n 3, 1) := by decide +kernel
theorem dX4_thing_42 : decode cX4_thing 42 = .ok (.iload_n 2, 1) := by decide +kernel
theorem dX4_thing_43 : decode cX4_thing 43 = .ok (.invokespecial 52, 3) := by decide +kernel
theorem dX4_thing_46 : decode cX4_thing 46 = .ok (.invokevirtual 55, 3) := by decide +kernel
theorem dX4_thing_49 : decode cX4_thing 49 = .ok (.pop, 1) := by decide +kernel
theorem dX4_thing_50 : decode cX4_thing 50 = .ok (.iload 4, 2) := by decide +kernel
theorem dX4_thing_52 : decode cX4_thing 52 = .ok (.ireturn, 1) := by decide +kernel
theorem dX4_begin_0 : decode cX4_begin 0 = .ok (.aload_n 0, 1) := by decide +kernel
theorem dX4_begin_1 : decode cX4_begin 1 = .ok (.iload_n 1, 1) := by decide +kernel
theorem dX4_begin_2 : decode cX4_begin 2 = .ok (.invokevirtual 42, 3) := by decide +kernel
theorem dX4_begin_5 : decode cX4_begin 5 = .ok (.astore_n 2, 1) := by decide +kernel
theorem dX4_begin_6 : decode cX4_begin 6 = .ok (.aload_n 2, 1) := by decide +kernel
theorem dX4_begin_7 : decode cX4_begin 7 = .ok (.ifnonnull 5, 3) := by decide +kernel
theorem dX4_begin_10 : decode cX4_begin 10 = .ok (.iconst (-1), 1) := by decide +kernel
theorem dX4_begin_11 : decode cX4_begin 11 = .ok (.ireturn, 1) := by decide +kernel
theorem dX4_begin_12 : decode cX4_begin 12 = .ok (.aload_n 0, 1) := by decide +kernel
theorem dX4_begin_13 : decode cX4_begin 13 = .ok (.getfield 29, 3) := by decide +kernel
theorem dX4_begin_16 : decode cX4_begin 16 = .ok (.invokevirtual 46, 3) := by decide +kernel
theorem dX4_begin_19 : decode cX4_begin 19 = .ok (.istore_n 3, 1) := by decide +kernel
theorem dX4_begin_20 : decode cX4_begin 20 = .ok (.iload_n 3, 1) := by decide +kernel
theorem dX4_begin_21 : decode cX4_begin 21 = .ok (.sipush 150, 3) := by decide +kernel
theorem dX4_begin_24 : decode cX4_begin 24 = .ok (.if_icmp .lt 6, 3) := by decide +kernel
theorem dX4_begin_27 : decode cX4_begin 27 = .ok (.bipush (-3), 2) := by decide +kernel
theorem dX4_begin_29 : decode cX4_begin 29 = .ok (.ireturn, 1) := by decide +kernel
theorem dX4_begin_30 : decode cX4_begin 30 = .ok (.aload_n 0, 1) := by decide +kernel
theorem dX4_begin_31 : decode cX4_begin 31 = .ok (.getfield 29, 3) := by decide +kernel
theorem dX4_begin_34 : decode cX4_begin 34 = .ok (.new 59, 3) := by decide +kernel
theorem dX4_begin_37 : decode cX4_begin 37 = .ok (.dup, 1) := by decide +kernel
theorem dX4_begin_38 : decode cX4_begin 38 = .ok (.iload_n 3, 1) := by decide +kernel
theorem dX4_begin_39 : decode cX4_begin 39 = .ok (.aload_n 2, 1) := by decide +kernel
theorem dX4_begin_40 : decode cX4_begin 40 = .ok (.invokespecial 61, 3) := by decide +kernel
theorem dX4_begin_43 : decode cX4_begin 43 = .ok (.invokevirtual 55, 3) := by decide +kernel
theorem dX4_begin_46 : decode cX4_begin 46 = .ok (.pop, 1) := by decide +kernel
theorem dX4_begin_47 : decode cX4_begin 47 = .ok (.iload_n 3, 1) := by decide +kernel
theorem dX4_begin_48 : decode cX4_begin 48 = .ok (.ireturn, 1) := by decide +kernel
theorem dX4_read_0 : decode cX4_read 0 = .ok (.aload_n 0, 1) := by decide +kernel
theorem dX4_read_1 : decode cX4_read 1 = .ok (.iload_n 1, 1) := by decide +kernel
theorem dX4_read_2 : decode cX4_read 2 = .ok (.invokevirtual 64, 3) := by decide +kernel
theorem dX4_read_5 : decode cX4_read 5 = .ok (.astore_n 3, 1) := by decide +kernel
theorem dX4_read_6 : decode cX4_read 6 = .ok (.aload_n 0, 1) := by decide +kernel
theorem dX4_read_7 : decode cX4_read 7 = .ok (.iload_n 2, 1) := by decide +kernel
theorem dX4_read_8 : decode cX4_read 8 = .ok (.invokevirtual 68, 3) := by decide +kernel
theorem dX4_read_11 : decode cX4_read 11 = .ok (.astore 4, 2) := by decide +kernel
theorem dX4_read_13 : decode cX4_read 13 = .ok (.aload_n 3, 1) := by decide +kernel
theorem dX4_read_14 : decode cX4_read 14 = .ok (.ifnull 8, 3) := by decide +kernel
theorem dX4_read_17 : decode cX4_read 17 = .ok (.aload 4, 2) := by decide +kernel
theorem dX4_read_19 : decode cX4_read 19 = .ok (.ifnonnull 5, 3) := by decide +kernel
theorem dX4_read_22 : decode cX4_read 22 = .ok (.lconst 0, 1) := by decide +kernel
theorem dX4_read_23 : decode cX4_read 23 = .ok (.lreturn, 1) := by decide +kernel
theorem dX4_read_24 : decode cX4_read 24 = .ok (.aload_n 3, 1) := by decide +kernel
theorem dX4_read_25 : decode cX4_read 25 = .ok (.getfield 72, 3) := by decide +kernel
theorem dX4_read_28 : decode cX4_read 28 = .ok (.aload 4, 2) := by decide +kernel
theorem dX4_read_30 : decode cX4_read 30 = .ok (.getfield 76, 3) := by decide +kernel
theorem dX4_read_33 : decode cX4_read 33 = .ok (.baload, 1) := by decide +kernel
theorem dX4_read_34 : decode cX4_read 34 = .ok (.ifCond .eq 16, 3) := by decide +kernel
theorem dX4_read_37 : decode cX4_read 37 = .ok (.aload_n 3, 1) := by decide +kernel
theorem dX4_read_38 : decode cX4_read 38 = .ok (.getfield 79, 3) := by decide +kernel
theorem dX4_read_41 : decode cX4_read 41 = .ok (.aload 4, 2) := by decide +kernel
theorem dX4_read_43 : decode cX4_read 43 = .ok (.getfield 76, 3) := by decide +kernel
theorem dX4_read_46 : decode cX4_read 46 = .ok (.laload, 1) := by decide +kernel
theorem dX4_read_47 : decode cX4_read 47 = .ok (.goto 16, 3) := by decide +kernel
theorem dX4_read_50 : decode cX4_read 50 = .ok (.aload_n 3, 1) := by decide +kernel
theorem dX4_read_51 : decode cX4_read 51 = .ok (.getfield 83, 3) := by decide +kernel
theorem dX4_read_54 : decode cX4_read 54 = .ok (.aload 4, 2) := by decide +kernel
theorem dX4_read_56 : decode cX4_read 56 = .ok (.aload_n 3, 1) := by decide +kernel
theorem dX4_read_57 : decode cX4_read 57 = .ok (.getfield 87, 3) := by decide +kernel
theorem dX4_read_60 : decode cX4_read 60 = .ok (.invokevirtual 91, 3) := by decide +kernel
theorem dX4_read_63 : decode cX4_read 63 = .ok (.lreturn, 1) := by decide +kernel
theorem dX4_counted_0 : decode cX4_counted 0 = .ok (.aload_n 0, 1) := by decide +kernel
theorem dX4_counted_1 : decode cX4_counted 1 = .ok (.iload_n 1, 1) := by decide +kernel
theorem dX4_counted_2 : decode cX4_counted 2 = .ok (.invokevirtual 64, 3) := by decide +kernel
theorem dX4_counted_5 : decode cX4_counted 5 = .ok (.astore 4, 2) := by decide +kernel
theorem dX4_counted_7 : decode cX4_counted 7 = .ok (.aload_n 0, 1) := by decide +kernel
theorem dX4_counted_8 : decode cX4_counted 8 = .ok (.iload_n 2, 1) := by decide +kernel
theorem dX4_counted_9 : decode cX4_counted 9 = .ok (.invokevirtual 95, 3) := by decide +kernel
theorem dX4_counted_12 : decode cX4_counted 12 = .ok (.astore 5, 2) := by decide +kernel
theorem dX4_counted_14 : decode cX4_counted 14 = .ok (.aload 4, 2) := by decide +kernel
theorem dX4_counted_16 : decode cX4_counted 16 = .ok (.ifnull 15, 3) := by decide +kernel
theorem dX4_counted_19 : decode cX4_counted 19 = .ok (.aload 5, 2) := by decide +kernel
theorem dX4_counted_21 : decode cX4_counted 21 = .ok (.ifnull 10, 3) := by decide +kernel
theorem dX4_counted_24 : decode cX4_counted 24 = .ok (.iload_n 3, 1) := by decide +kernel
theorem dX4_counted_25 : decode cX4_counted 25 = .ok (.invokestatic 98, 3) := by decide +kernel
theorem dX4_counted_28 : decode cX4_counted 28 = .ok (.ifCond .ne 5, 3) := by decide +kernel
theorem dX4_counted_31 : decode cX4_counted 31 = .ok (.lconst 0, 1) := by decide +kernel
theorem dX4_counted_32 : decode cX4_counted 32 = .ok (.lreturn, 1) := by decide +kernel
theorem dX4_counted_33 : decode cX4_counted 33 = .ok (.aload 5, 2) := by decide +kernel
theorem dX4_counted_35 : decode cX4_counted 35 = .ok (.iload_n 3, 1) := by decide +kernel
theorem dX4_counted_36 : decode cX4_counted 36 = .ok (.invokevirtual 102, 3) := by decide +kernel
theorem dX4_counted_39 : decode cX4_counted 39 = .ok (.istore 6, 2) := by decide +kernel
theorem dX4_counted_41 : decode cX4_counted 41 = .ok (.aload 4, 2) := by decide +kernel
theorem dX4_counted_43 : decode cX4_counted 43 = .ok (.getfield 106, 3) := by decide +kernel
theorem dX4_counted_46 : decode cX4_counted 46 = .ok (.iload 6, 2) := by decide +kernel
theorem dX4_counted_48 : decode cX4_counted 48 = .ok (.laload, 1) := by decide +kernel
theorem dX4_counted_49 : decode cX4_counted 49 = .ok (.aload 4, 2) := by decide +kernel
theorem dX4_counted_51 : decode cX4_counted 51 = .ok (.getfield 83, 3) := by decide +kernel
theorem dX4_counted_54 : decode cX4_counted 54 = .ok (.iload 6, 2) := by decide +kernel
theorem dX4_counted_56 : decode cX4_counted 56 = .ok (.aload 4, 2) := by decide +kernel
theorem dX4_counted_58 : decode cX4_counted 58 = .ok (.getfield 87, 3) := by decide +kernel
theorem dX4_counted_61 : decode cX4_counted 61 = .ok (.invokevirtual 109, 3) := by decide +kernel
theorem dX4_counted_64 : decode cX4_counted 64 = .ok (.ladd, 1) := by decide +kernel
theorem dX4_counted_65 : decode cX4_counted 65 = .ok (.lreturn, 1) := by decide +kernel
theorem dX4_write_0 : decode cX4_write 0 = .ok (.aload_n 0, 1) := by decide +kernel
theorem dX4_write_1 : decode cX4_write 1 = .ok (.iload_n 1, 1) := by decide +kernel
theorem dX4_write_2 : decode cX4_write 2 = .ok (.invokevirtual 64, 3) := by decide +kernel
theorem dX4_write_5 : decode cX4_write 5 = .ok (.astore 5, 2) := by decide +kernel
theorem dX4_write_7 : decode cX4_write 7 = .ok (.aload_n 0, 1) := by decide +kernel
theorem dX4_write_8 : decode cX4_write 8 = .ok (.iload_n 2, 1) := by decide +kernel
theorem dX4_write_9 : decode cX4_write 9 = .ok (.invokevirtual 68, 3) := by decide +kernel
theorem dX4_write_12 : decode cX4_write 12 = .ok (.astore 6, 2) := by decide +kernel
theorem dX4_write_14 : decode cX4_write 14 = .ok (.aload 5, 2) := by decide +kernel
theorem dX4_write_16 : decode cX4_write 16 = .ok (.ifnull 8, 3) := by decide +kernel
theorem dX4_write_19 : decode cX4_write 19 = .ok (.aload 6, 2) := by decide +kernel
theorem dX4_write_21 : decode cX4_write 21 = .ok (.ifnonnull 5, 3) := by decide +kernel
theorem dX4_write_24 : decode cX4_write 24 = .ok (.iconst (-1), 1) := by decide +kernel
theorem dX4_write_25 : decode cX4_write 25 = .ok (.ireturn, 1) := by decide +kernel
theorem dX4_write_26 : decode cX4_write 26 = .ok (.aload 5, 2) := by decide +kernel
theorem dX4_write_28 : decode cX4_write 28 = .ok (.getfield 113, 3) := by decide +kernel
theorem dX4_write_31 : decode cX4_write 31 = .ok (.ifCond .eq 6, 3) := by decide +kernel
theorem dX4_write_34 : decode cX4_write 34 = .ok (.bipush (-2), 2) := by decide +kernel
theorem dX4_write_36 : decode cX4_write 36 = .ok (.ireturn, 1) := by decide +kernel
theorem dX4_write_37 : decode cX4_write 37 = .ok (.aload 5, 2) := by decide +kernel
theorem dX4_write_39 : decode cX4_write 39 = .ok (.aload 6, 2) := by decide +kernel
theorem dX4_write_41 : decode cX4_write 41 = .ok (.lload_n 3, 1) := by decide +kernel
theorem dX4_write_42 : decode cX4_write 42 = .ok (.invokevirtual 116, 3) := by decide +kernel
theorem dX4_write_45 : decode cX4_write 45 = .ok (.aload 5, 2) := by decide +kernel
theorem dX4_write_47 : decode cX4_write 47 = .ok (.getfield 120, 3) := by decide +kernel
theorem dX4_write_50 : decode cX4_write 50 = .ok (.ireturn, 1) := by decide +kernel
theorem dX4_add_0 : decode cX4_add 0 = .ok (.aload_n 0, 1) := by decide +kernel
theorem dX4_add_1 : decode cX4_add 1 = .ok (.iload_n 1, 1) := by decide +kernel
theorem dX4_add_2 : decode cX4_add 2 = .ok (.invokevirtual 64, 3) := by decide +kernel
theorem dX4_add_5 : decode cX4_add 5 = .ok (.astore 5, 2) := by decide +kernel
theorem dX4_add_7 : decode cX4_add 7 = .ok (.aload_n 0, 1) := by decide +kernel
theorem dX4_add_8 : decode cX4_add 8 = .ok (.iload_n 2, 1) := by decide +kernel
theorem dX4_add_9 : decode cX4_add 9 = .ok (.invokevirtual 95, 3) := by decide +kernel
theorem dX4_add_12 : decode cX4_add 12 = .ok (.astore 6, 2) := by decide +kernel
theorem dX4_add_14 : decode cX4_add 14 = .ok (.aload 5, 2) := by decide +kernel
theorem dX4_add_16 : decode cX4_add 16 = .ok (.ifnull 15, 3) := by decide +kernel
theorem dX4_add_19 : decode cX4_add 19 = .ok (.aload 6, 2) := by decide +kernel
theorem dX4_add_21 : decode cX4_add 21 = .ok (.ifnull 10, 3) := by decide +kernel
theorem dX4_add_24 : decode cX4_add 24 = .ok (.iload_n 3, 1) := by decide +kernel
theorem dX4_add_25 : decode cX4_add 25 = .ok (.invokestatic 98, 3) := by decide +kernel
theorem dX4_add_28 : decode cX4_add 28 = .ok (.ifCond .ne 5, 3) := by decide +kernel
theorem dX4_add_31 : decode cX4_add 31 = .ok (.iconst (-1), 1) := by decide +kernel
theorem dX4_add_32 : decode cX4_add 32 = .ok (.ireturn, 1) := by decide +kernel
theorem dX4_add_33 : decode cX4_add 33 = .ok (.aload 5, 2) := by decide +kernel
theorem dX4_add_35 : decode cX4_add 35 = .ok (.getfield 113, 3) := by decide +kernel
theorem dX4_add_38 : decode cX4_add 38 = .ok (.ifCond .eq 6, 3) := by decide +kernel
theorem dX4_add_41 : decode cX4_add 41 = .ok (.bipush (-2), 2) := by decide +kernel
theorem dX4_add_43 : decode cX4_add 43 = .ok (.ireturn, 1) := by decide +kernel
theorem dX4_add_44 : decode cX4_add 44 = .ok (.aload 5, 2) := by decide +kernel
theorem dX4_add_46 : decode cX4_add 46 = .ok (.aload 6, 2) := by decide +kernel
theorem dX4_add_48 : decode cX4_add 48 = .ok (.iload_n 3, 1) := by decide +kernel
theorem dX4_add_49 : decode cX4_add 49 = .ok (.invokevirtual 102, 3) := by decide +kernel
theorem dX4_add_52 : decode cX4_add 52 = .ok (.iload 4, 2) := by decide +kernel
theorem dX4_add_54 : decode cX4_add 54 = .ok (.invokevirtual 123, 3) := by decide +kernel
theorem dX4_add_57 : decode cX4_add 57 = .ok (.iconst 1, 1) := by decide +kernel
theorem dX4_add_58 : decode cX4_add 58 = .ok (.ireturn, 1) := by decide +kernel
theorem dX4_commit_0 : decode cX4_commit 0 = .ok (.aload_n 0, 1) := by decide +kernel
theorem dX4_commit_1 : decode cX4_commit 1 = .ok (.iload_n 1, 1) := by decide +kernel
theorem dX4_commit_2 : decode cX4_commit 2 = .ok (.invokevirtual 64, 3) := by decide +kernel
theorem dX4_commit_5 : decode cX4_commit 5 = .ok (.astore_n 2, 1) := by decide +kernel
theorem dX4_commit_6 : decode cX4_commit 6 = .ok (.aload_n 2, 1) := by decide +kernel
theorem dX4_commit_7 : decode cX4_commit 7 = .ok (.ifnonnull 5, 3) := by decide +kernel
theorem dX4_commit_10 : decode cX4_commit 10 = .ok (.iconst (-1), 1) := by decide +kernel
theorem dX4_commit_11 : decode cX4_commit 11 = .ok (.ireturn, 1) := by decide +kernel
theorem dX4_commit_12 : decode cX4_commit 12 = .ok (.aload_n 2, 1) := by decide +kernel
theorem dX4_commit_13 : decode cX4_commit 13 = .ok (.getfield 113, 3) := by decide +kernel
theorem dX4_commit_16 : decode cX4_commit 16 = .ok (.ifCond .eq 6, 3) := by decide +kernel
theorem dX4_commit_19 : decode cX4_commit 19 = .ok (.bipush (-2), 2) := by decide +kernel
theorem dX4_commit_21 : decode cX4_commit 21 = .ok (.ireturn, 1) := by decide +kernel
theorem dX4_commit_22 : decode cX4_commit 22 = .ok (.aload_n 0, 1) := by decide +kernel
theorem dX4_commit_23 : decode cX4_commit 23 = .ok (.aload_n 2, 1) := by decide +kernel
theorem dX4_commit_24 : decode cX4_commit 24 = .ok (.aload_n 2, 1) := by decide +kernel
theorem dX4_commit_25 : decode cX4_commit 25 = .ok (.getfield 83, 3) := by decide +kernel
theorem dX4_commit_28 : decode cX4_commit 28 = .ok (.invokevirtual 127, 3) := by decide +kernel
theorem dX4_commit_31 : decode cX4_commit 31 = .ok (.ifCond .ne 11, 3) := by decide +kernel
theorem dX4_commit_34 : decode cX4_commit 34 = .ok (.aload_n 2, 1) := by decide +kernel
theorem dX4_commit_35 : decode cX4_commit 35 = .ok (.iconst 3, 1) := by decide +kernel
theorem dX4_commit_36 : decode cX4_commit 36 = .ok (.putfield 113, 3) := by decide +kernel
theorem dX4_commit_39 : decode cX4_commit 39 = .ok (.goto 43, 3) := by decide +kernel
theorem dX4_commit_42 : decode cX4_commit 42 = .ok (.aload_n 0, 1) := by decide +kernel
theorem dX4_commit_43 : decode cX4_commit 43 = .ok (.aload_n 2, 1) := by decide +kernel
theorem dX4_commit_44 : decode cX4_commit 44 = .ok (.invokevirtual 131, 3) := by decide +kernel
theorem dX4_commit_47 : decode cX4_commit 47 = .ok (.ifCond .eq 30, 3) := by decide +kernel
theorem dX4_commit_50 : decode cX4_commit 50 = .ok (.aload_n 0, 1) := by decide +kernel
theorem dX4_commit_51 : decode cX4_commit 51 = .ok (.aload_n 2, 1) := by decide +kernel
theorem dX4_commit_52 : decode cX4_commit 52 = .ok (.aload_n 2, 1) := by decide +kernel
theorem dX4_commit_53 : decode cX4_commit 53 = .ok (.getfield 83, 3) := by decide +kernel
theorem dX4_commit_56 : decode cX4_commit 56 = .ok (.invokevirtual 135, 3) := by decide +kernel
theorem dX4_commit_59 : decode cX4_commit 59 = .ok (.aload_n 2, 1) := by decide +kernel
theorem dX4_commit_60 : decode cX4_commit 60 = .ok (.iconst 1, 1) := by decide +kernel
theorem dX4_commit_61 : decode cX4_commit 61 = .ok (.putfield 113, 3) := by decide +kernel
theorem dX4_commit_64 : decode cX4_commit 64 = .ok (.aload_n 2, 1) := by decide +kernel
theorem dX4_commit_65 : decode cX4_commit 65 = .ok (.aload_n 0, 1) := by decide +kernel
theorem dX4_commit_66 : decode cX4_commit 66 = .ok (.aload_n 2, 1) := by decide +kernel
theorem dX4_commit_67 : decode cX4_commit 67 = .ok (.iconst 0, 1) := by decide +kernel
theorem dX4_commit_68 : decode cX4_commit 68 = .ok (.invokevirtual 139, 3) := by decide +kernel
theorem dX4_commit_71 : decode cX4_commit 71 = .ok (.putfield 143, 3) := by decide +kernel
theorem dX4_commit_74 : decode cX4_commit 74 = .ok (.goto 8, 3) := by decide +kernel
theorem dX4_commit_77 : decode cX4_commit 77 = .ok (.aload_n 0, 1) := by decide +kernel
theorem dX4_commit_78 : decode cX4_commit 78 = .ok (.aload_n 2, 1) := by decide +kernel
theorem dX4_commit_79 : decode cX4_commit 79 = .ok (.invokevirtual 146, 3) := by decide +kernel
theorem dX4_commit_82 : decode cX4_commit 82 = .ok (.aload_n 2, 1) := by decide +kernel
theorem dX4_commit_83 : decode cX4_commit 83 = .ok (.getfield 113, 3) := by decide +kernel
theorem dX4_commit_86 : decode cX4_commit 86 = .ok (.ireturn, 1) := by decide +kernel
theorem dX4_abort_0 : decode cX4_abort 0 = .ok (.aload_n 0, 1) := by decide +kernel
theorem dX4_abort_1 : decode cX4_abort 1 = .ok (.iload_n 1, 1) := by decide +kernel
theorem dX4_abort_2 : decode cX4_abort 2 = .ok (.invokevirtual 64, 3) := by decide +kernel
theorem dX4_abort_5 : decode cX4_abort 5 = .ok (.astore_n 2, 1) := by decide +kernel
theorem dX4_abort_6 : decode cX4_abort 6 = .ok (.aload_n 2, 1) := by decide +kernel
theorem dX4_abort_7 : decode cX4_abort 7 = .ok (.ifnonnull 5, 3) := by decide +kernel
theorem dX4_abort_10 : decode cX4_abort 10 = .ok (.iconst (-1), 1) := by decide +kernel
theorem dX4_abort_11 : decode cX4_abort 11 = .ok (.ireturn, 1) := by decide +kernel
theorem dX4_abort_12 : decode cX4_abort 12 = .ok (.aload_n 2, 1) := by decide +kernel
theorem dX4_abort_13 : decode cX4_abort 13 = .ok (.getfield 113, 3) := by decide +kernel
theorem dX4_abort_16 : decode cX4_abort 16 = .ok (.ifCond .eq 6, 3) := by decide +kernel
theorem dX4_abort_19 : decode cX4_abort 19 = .ok (.bipush (-2), 2) := by decide +kernel
theorem dX4_abort_21 : decode cX4_abort 21 = .ok (.ireturn, 1) := by decide +kernel
theorem dX4_abort_22 : decode cX4_abort 22 = .ok (.aload_n 2, 1) := by decide +kernel
theorem dX4_abort_23 : decode cX4_abort 23 = .ok (.iconst 3, 1) := by decide +kernel
theorem dX4_abort_24 : decode cX4_abort 24 = .ok (.putfield 113, 3) := by decide +kernel
theorem dX4_abort_27 : decode cX4_abort 27 = .ok (.iconst 1, 1) := by decide +kernel
theorem dX4_abort_28 : decode cX4_abort 28 = .ok (.ireturn, 1) := by decide +kernel
theorem dX4_deliver_0 : decode cX4_deliver 0 = .ok (.aload_n 0, 1) := by decide +kernel
theorem dX4_deliver_1 : decode cX4_deliver 1 = .ok (.iload_n 1, 1) := by decide +kernel
theorem dX4_deliver_2 : decode cX4_deliver 2 = .ok (.invokevirtual 150, 3) := by decide +kernel
theorem dX4_deliver_5 : decode cX4_deliver 5 = .ok (.astore_n 2, 1) := by decide +kernel
theorem dX4_deliver_6 : decode cX4_deliver 6 = .ok (.aload_n 2, 1) := by decide +kernel
theorem dX4_deliver_7 : decode cX4_deliver 7 = .ok (.ifnonnull 5, 3) := by decide +kernel
theorem dX4_deliver_10 : decode cX4_deliver 10 = .ok (.iconst (-1), 1) := by decide +kernel
theorem dX4_deliver_11 : decode cX4_deliver 11 = .ok (.ireturn, 1) := by decide +kernel
theorem dX4_deliver_12 : decode cX4_deliver 12 = .ok (.aload_n 2, 1) := by decide +kernel
theorem dX4_deliver_13 : decode cX4_deliver 13 = .ok (.invokevirtual 154, 3) := by decide +kernel
theorem dX4_deliver_16 : decode cX4_deliver 16 = .ok (.ifCond .ne 6, 3) := by decide +kernel
theorem dX4_deliver_19 : decode cX4_deliver 19 = .ok (.bipush (-2), 2) := by decide +kernel
theorem dX4_deliver_21 : decode cX4_deliver 21 = .ok (.ireturn, 1) := by decide +kernel
theorem dX4_deliver_22 : decode cX4_deliver 22 = .ok (.aload_n 0, 1) := by decide +kernel
theorem dX4_deliver_23 : decode cX4_deliver 23 = .ok (.getfield 32, 3) := by decide +kernel
theorem dX4_deliver_26 : decode cX4_deliver 26 = .ok (.iload_n 1, 1) := by decide +kernel
theorem dX4_deliver_27 : decode cX4_deliver 27 = .ok (.invokevirtual 159, 3) := by decide +kernel
theorem dX4_deliver_30 : decode cX4_deliver 30 = .ok (.pop, 1) := by decide +kernel
theorem dX4_deliver_31 : decode cX4_deliver 31 = .ok (.aload_n 0, 1) := by decide +kernel
theorem dX4_deliver_32 : decode cX4_deliver 32 = .ok (.aload_n 2, 1) := by decide +kernel
theorem dX4_deliver_33 : decode cX4_deliver 33 = .ok (.invokevirtual 163, 3) := by decide +kernel
theorem dX4_deliver_36 : decode cX4_deliver 36 = .ok (.aload_n 2, 1) := by decide +kernel
theorem dX4_deliver_37 : decode cX4_deliver 37 = .ok (.getfield 167, 3) := by decide +kernel
theorem dX4_deliver_40 : decode cX4_deliver 40 = .ok (.ireturn, 1) := by decide +kernel
theorem dX4_all_0 : decode cX4_all 0 = .ok (.iload_n 1, 1) := by decide +kernel
theorem dX4_all_1 : decode cX4_all 1 = .ok (.ifCond .lt 10, 3) := by decide +kernel
theorem dX4_all_4 : decode cX4_all 4 = .ok (.iload_n 1, 1) := by decide +kernel
theorem dX4_all_5 : decode cX4_all 5 = .ok (.sipush 500, 3) := by decide +kernel
theorem dX4_all_8 : decode cX4_all 8 = .ok (.if_icmp .le 5, 3) := by decide +kernel
theorem dX4_all_11 : decode cX4_all 11 = .ok (.iconst (-1), 1) := by decide +kernel
theorem dX4_all_12 : decode cX4_all 12 = .ok (.ireturn, 1) := by decide +kernel
theorem dX4_all_13 : decode cX4_all 13 = .ok (.iconst 0, 1) := by decide +kernel
theorem dX4_all_14 : decode cX4_all 14 = .ok (.istore_n 2, 1) := by decide +kernel
theorem dX4_all_15 : decode cX4_all 15 = .ok (.iload_n 2, 1) := by decide +kernel
theorem dX4_all_16 : decode cX4_all 16 = .ok (.iload_n 1, 1) := by decide +kernel
theorem dX4_all_17 : decode cX4_all 17 = .ok (.if_icmp .ge 43, 3) := by decide +kernel
theorem dX4_all_20 : decode cX4_all 20 = .ok (.aload_n 0, 1) := by decide +kernel
theorem dX4_all_21 : decode cX4_all 21 = .ok (.invokevirtual 170, 3) := by decide +kernel
theorem dX4_all_24 : decode cX4_all 24 = .ok (.istore_n 3, 1) := by decide +kernel
theorem dX4_all_25 : decode cX4_all 25 = .ok (.aload_n 0, 1) := by decide +kernel
theorem dX4_all_26 : decode cX4_all 26 = .ok (.iload_n 3, 1) := by decide +kernel
theorem dX4_all_27 : decode cX4_all 27 = .ok (.invokevirtual 150, 3) := by decide +kernel
theorem dX4_all_30 : decode cX4_all 30 = .ok (.astore 4, 2) := by decide +kernel
theorem dX4_all_32 : decode cX4_all 32 = .ok (.aload 4, 2) := by decide +kernel
theorem dX4_all_34 : decode cX4_all 34 = .ok (.ifnonnull 5, 3) := by decide +kernel
theorem dX4_all_37 : decode cX4_all 37 = .ok (.iload_n 2, 1) := by decide +kernel
theorem dX4_all_38 : decode cX4_all 38 = .ok (.ireturn, 1) := by decide +kernel
theorem dX4_all_39 : decode cX4_all 39 = .ok (.aload_n 0, 1) := by decide +kernel
theorem dX4_all_40 : decode cX4_all 40 = .ok (.getfield 32, 3) := by decide +kernel
theorem dX4_all_43 : decode cX4_all 43 = .ok (.iload_n 3, 1) := by decide +kernel
theorem dX4_all_44 : decode cX4_all 44 = .ok (.invokevirtual 159, 3) := by decide +kernel
theorem dX4_all_47 : decode cX4_all 47 = .ok (.pop, 1) := by decide +kernel
theorem dX4_all_48 : decode cX4_all 48 = .ok (.aload_n 0, 1) := by decide +kernel
theorem dX4_all_49 : decode cX4_all 49 = .ok (.aload 4, 2) := by decide +kernel
theorem dX4_all_51 : decode cX4_all 51 = .ok (.invokevirtual 163, 3) := by decide +kernel
theorem dX4_all_54 : decode cX4_all 54 = .ok (.iinc 2 1, 3) := by decide +kernel
theorem dX4_all_57 : decode cX4_all 57 = .ok (.goto (-42), 3) := by decide +kernel
theorem dX4_all_60 : decode cX4_all 60 = .ok (.iload_n 1, 1) := by decide +kernel
theorem dX4_all_61 : decode cX4_all 61 = .ok (.ireturn, 1) := by decide +kernel
theorem dX4_message_0 : decode cX4_message 0 = .ok (.aload_n 0, 1) := by decide +kernel
theorem dX4_message_1 : decode cX4_message 1 = .ok (.iload_n 1, 1) := by decide +kernel
theorem dX4_message_2 : decode cX4_message 2 = .ok (.invokevirtual 150, 3) := by decide +kernel
theorem dX4_message_5 : decode cX4_message 5 = .ok (.astore_n 3, 1) := by decide +kernel
theorem dX4_message_6 : decode cX4_message 6 = .ok (.aload_n 3, 1) := by decide +kernel
theorem dX4_message_7 : decode cX4_message 7 = .ok (.ifnonnull 5, 3) := by decide +kernel
theorem dX4_message_10 : decode cX4_message 10 = .ok (.iconst (-1), 1) := by decide +kernel
theorem dX4_message_11 : decode cX4_message 11 = .ok (.ireturn, 1) := by decide +kernel
theorem dX4_message_12 : decode cX4_message 12 = .ok (.iload_n 2, 1) := by decide +kernel
theorem dX4_message_13 : decode cX4_message 13 = .ok (.tableswitch 72 0 4 #[35, 40, 48, 56, 64], 35) := by decide +kernel
theorem dX4_message_48 : decode cX4_message 48 = .ok (.aload_n 3, 1) := by decide +kernel
theorem dX4_message_49 : decode cX4_message 49 = .ok (.getfield 167, 3) := by decide +kernel
theorem dX4_message_52 : decode cX4_message 52 = .ok (.ireturn, 1) := by decide +kernel
theorem dX4_message_53 : decode cX4_message 53 = .ok (.aload_n 3, 1) := by decide +kernel
theorem dX4_message_54 : decode cX4_message 54 = .ok (.getfield 173, 3) := by decide +kernel
theorem dX4_message_57 : decode cX4_message 57 = .ok (.getfield 176, 3) := by decide +kernel
theorem dX4_message_60 : decode cX4_message 60 = .ok (.ireturn, 1) := by decide +kernel
theorem dX4_message_61 : decode cX4_message 61 = .ok (.aload_n 3, 1) := by decide +kernel
theorem dX4_message_62 : decode cX4_message 62 = .ok (.getfield 177, 3) := by decide +kernel
theorem dX4_message_65 : decode cX4_message 65 = .ok (.getfield 176, 3) := by decide +kernel
theorem dX4_message_68 : decode cX4_message 68 = .ok (.ireturn, 1) := by decide +kernel
theorem dX4_message_69 : decode cX4_message 69 = .ok (.aload_n 3, 1) := by decide +kernel
theorem dX4_message_70 : decode cX4_message 70 = .ok (.getfield 180, 3) := by decide +kernel
theorem dX4_message_73 : decode cX4_message 73 = .ok (.getfield 184, 3) := by decide +kernel
theorem dX4_message_76 : decode cX4_message 76 = .ok (.ireturn, 1) := by decide +kernel
theorem dX4_message_77 : decode cX4_message 77 = .ok (.aload_n 3, 1) := by decide +kernel
theorem dX4_message_78 : decode cX4_message 78 = .ok (.invokevirtual 154, 3) := by decide +kernel
theorem dX4_message_81 : decode cX4_message 81 = .ok (.invokestatic 185, 3) := by decide +kernel
theorem dX4_message_84 : decode cX4_message 84 = .ok (.ireturn, 1) := by decide +kernel
theorem dX4_message_85 : decode cX4_message 85 = .ok (.iconst (-1), 1) := by decide +kernel
theorem dX4_message_86 : decode cX4_message 86 = .ok (.ireturn, 1) := by decide +kernel
theorem dX4_told_0 : decode cX4_told 0 = .ok (.aload_n 0, 1) := by decide +kernel
theorem dX4_told_1 : decode cX4_told 1 = .ok (.iload_n 1, 1) := by decide +kernel
theorem dX4_told_2 : decode cX4_told 2 = .ok (.invokevirtual 64, 3) := by decide +kernel
theorem dX4_told_5 : decode cX4_told 5 = .ok (.astore_n 3, 1) := by decide +kernel
theorem dX4_told_6 : decode cX4_told 6 = .ok (.aload_n 3, 1) := by decide +kernel
theorem dX4_told_7 : decode cX4_told 7 = .ok (.ifnonnull 5, 3) := by decide +kernel
theorem dX4_told_10 : decode cX4_told 10 = .ok (.iconst (-1), 1) := by decide +kernel
theorem dX4_told_11 : decode cX4_told 11 = .ok (.ireturn, 1) := by decide +kernel
theorem dX4_told_12 : decode cX4_told 12 = .ok (.iload_n 2, 1) := by decide +kernel
theorem dX4_told_13 : decode cX4_told 13 = .ok (.tableswitch 107 0 8 #[51, 56, 64, 69, 74, 83, 92, 97, 102], 51) := by decide +kernel
theorem dX4_told_64 : decode cX4_told 64 = .ok (.aload_n 3, 1) := by decide +kernel
theorem dX4_told_65 : decode cX4_told 65 = .ok (.getfield 113, 3) := by decide +kernel
theorem dX4_told_68 : decode cX4_told 68 = .ok (.ireturn, 1) := by decide +kernel
theorem dX4_told_69 : decode cX4_told 69 = .ok (.aload_n 3, 1) := by decide +kernel
theorem dX4_told_70 : decode cX4_told 70 = .ok (.getfield 83, 3) := by decide +kernel
theorem dX4_told_73 : decode cX4_told 73 = .ok (.getfield 176, 3) := by decide +kernel
theorem dX4_told_76 : decode cX4_told 76 = .ok (.ireturn, 1) := by decide +kernel
theorem dX4_told_77 : decode cX4_told 77 = .ok (.aload_n 3, 1) := by decide +kernel
theorem dX4_told_78 : decode cX4_told 78 = .ok (.getfield 189, 3) := by decide +kernel
theorem dX4_told_81 : decode cX4_told 81 = .ok (.ireturn, 1) := by decide +kernel
theorem dX4_told_82 : decode cX4_told 82 = .ok (.aload_n 3, 1) := by decide +kernel
theorem dX4_told_83 : decode cX4_told 83 = .ok (.getfield 192, 3) := by decide +kernel
theorem dX4_told_86 : decode cX4_told 86 = .ok (.ireturn, 1) := by decide +kernel
theorem dX4_told_87 : decode cX4_told 87 = .ok (.aload_n 0, 1) := by decide +kernel
theorem dX4_told_88 : decode cX4_told 88 = .ok (.aload_n 3, 1) := by decide +kernel
theorem dX4_told_89 : decode cX4_told 89 = .ok (.invokevirtual 195, 3) := by decide +kernel
theorem dX4_told_92 : decode cX4_told 92 = .ok (.invokestatic 185, 3) := by decide +kernel
theorem dX4_told_95 : decode cX4_told 95 = .ok (.ireturn, 1) := by decide +kernel
theorem dX4_told_96 : decode cX4_told 96 = .ok (.aload_n 0, 1) := by decide +kernel
theorem dX4_told_97 : decode cX4_told 97 = .ok (.aload_n 3, 1) := by decide +kernel
theorem dX4_told_98 : decode cX4_told 98 = .ok (.invokevirtual 198, 3) := by decide +kernel
theorem dX4_told_101 : decode cX4_told 101 = .ok (.invokestatic 185, 3) := by decide +kernel
theorem dX4_told_104 : decode cX4_told 104 = .ok (.ireturn, 1) := by decide +kernel
theorem dX4_told_105 : decode cX4_told 105 = .ok (.aload_n 3, 1) := by decide +kernel
theorem dX4_told_106 : decode cX4_told 106 = .ok (.getfield 120, 3) := by decide +kernel
theorem dX4_told_109 : decode cX4_told 109 = .ok (.ireturn, 1) := by decide +kernel
theorem dX4_told_110 : decode cX4_told 110 = .ok (.aload_n 3, 1) := by decide +kernel
theorem dX4_told_111 : decode cX4_told 111 = .ok (.getfield 201, 3) := by decide +kernel
theorem dX4_told_114 : decode cX4_told 114 = .ok (.ireturn, 1) := by decide +kernel
theorem dX4_told_115 : decode cX4_told 115 = .ok (.aload_n 3, 1) := by decide +kernel
theorem dX4_told_116 : decode cX4_told 116 = .ok (.getfield 143, 3) := by decide +kernel
theorem dX4_told_119 : decode cX4_told 119 = .ok (.ireturn, 1) := by decide +kernel
theorem dX4_told_120 : decode cX4_told 120 = .ok (.iconst (-1), 1) := by decide +kernel
theorem dX4_told_121 : decode cX4_told 121 = .ok (.ireturn, 1) := by decide +kernel
theorem dX4_start_0 : decode cX4_start 0 = .ok (.aload_n 0, 1) := by decide +kernel
theorem dX4_start_1 : decode cX4_start 1 = .ok (.iload_n 1, 1) := by decide +kernel
theorem dX4_start_2 : decode cX4_start 2 = .ok (.invokevirtual 64, 3) := by decide +kernel
theorem dX4_start_5 : decode cX4_start 5 = .ok (.astore_n 3, 1) := by decide +kernel
theorem dX4_start_6 : decode cX4_start 6 = .ok (.aload_n 0, 1) := by decide +kernel
theorem dX4_start_7 : decode cX4_start 7 = .ok (.iload_n 2, 1) := by decide +kernel
theorem dX4_start_8 : decode cX4_start 8 = .ok (.invokevirtual 42, 3) := by decide +kernel
theorem dX4_start_11 : decode cX4_start 11 = .ok (.astore 4, 2) := by decide +kernel
theorem dX4_start_13 : decode cX4_start 13 = .ok (.aload_n 3, 1) := by decide +kernel
theorem dX4_start_14 : decode cX4_start 14 = .ok (.ifnull 8, 3) := by decide +kernel
theorem dX4_start_17 : decode cX4_start 17 = .ok (.aload 4, 2) := by decide +kernel
theorem dX4_start_19 : decode cX4_start 19 = .ok (.ifnonnull 5, 3) := by decide +kernel
theorem dX4_start_22 : decode cX4_start 22 = .ok (.iconst (-1), 1) := by decide +kernel
theorem dX4_start_23 : decode cX4_start 23 = .ok (.ireturn, 1) := by decide +kernel
theorem dX4_start_24 : decode cX4_start 24 = .ok (.aload_n 3, 1) := by decide +kernel
theorem dX4_start_25 : decode cX4_start 25 = .ok (.getfield 87, 3) := by decide +kernel
theorem dX4_start_28 : decode cX4_start 28 = .ok (.aload 4, 2) := by decide +kernel
theorem dX4_start_30 : decode cX4_start 30 = .ok (.getfield 176, 3) := by decide +kernel
theorem dX4_start_33 : decode cX4_start 33 = .ok (.iaload, 1) := by decide +kernel
theorem dX4_start_34 : decode cX4_start 34 = .ok (.ireturn, 1) := by decide +kernel
theorem dX4_had_0 : decode cX4_had 0 = .ok (.aload_n 0, 1) := by decide +kernel
theorem dX4_had_1 : decode cX4_had 1 = .ok (.iload_n 1, 1) := by decide +kernel
theorem dX4_had_2 : decode cX4_had 2 = .ok (.invokevirtual 42, 3) := by decide +kernel
theorem dX4_had_5 : decode cX4_had 5 = .ok (.astore_n 3, 1) := by decide +kernel
theorem dX4_had_6 : decode cX4_had 6 = .ok (.aload_n 0, 1) := by decide +kernel
theorem dX4_had_7 : decode cX4_had 7 = .ok (.iload_n 2, 1) := by decide +kernel
theorem dX4_had_8 : decode cX4_had 8 = .ok (.invokevirtual 42, 3) := by decide +kernel
theorem dX4_had_11 : decode cX4_had 11 = .ok (.astore 4, 2) := by decide +kernel
theorem dX4_had_13 : decode cX4_had 13 = .ok (.aload_n 3, 1) := by decide +kernel
theorem dX4_had_14 : decode cX4_had 14 = .ok (.ifnull 8, 3) := by decide +kernel
theorem dX4_had_17 : decode cX4_had 17 = .ok (.aload 4, 2) := by decide +kernel
theorem dX4_had_19 : decode cX4_had 19 = .ok (.ifnonnull 5, 3) := by decide +kernel
theorem dX4_had_22 : decode cX4_had 22 = .ok (.iconst (-1), 1) := by decide +kernel
theorem dX4_had_23 : decode cX4_had 23 = .ok (.ireturn, 1) := by decide +kernel
theorem dX4_had_24 : decode cX4_had 24 = .ok (.aload_n 3, 1) := by decide +kernel
theorem dX4_had_25 : decode cX4_had 25 = .ok (.getfield 204, 3) := by decide +kernel
theorem dX4_had_28 : decode cX4_had 28 = .ok (.aload 4, 2) := by decide +kernel
theorem dX4_had_30 : decode cX4_had 30 = .ok (.getfield 176, 3) := by decide +kernel
theorem dX4_had_33 : decode cX4_had 33 = .ok (.iaload, 1) := by decide +kernel
theorem dX4_had_34 : decode cX4_had 34 = .ok (.ireturn, 1) := by decide +kernel
theorem dX4_latest_0 : decode cX4_latest 0 = .ok (.aload_n 0, 1) := by decide +kernel
theorem dX4_latest_1 : decode cX4_latest 1 = .ok (.iload_n 1, 1) := by decide +kernel
theorem dX4_latest_2 : decode cX4_latest 2 = .ok (.invokevirtual 42, 3) := by decide +kernel
theorem dX4_latest_5 : decode cX4_latest 5 = .ok (.astore_n 3, 1) := by decide +kernel
theorem dX4_latest_6 : decode cX4_latest 6 = .ok (.aload_n 0, 1) := by decide +kernel
theorem dX4_latest_7 : decode cX4_latest 7 = .ok (.iload_n 2, 1) := by decide +kernel
theorem dX4_latest_8 : decode cX4_latest 8 = .ok (.invokevirtual 68, 3) := by decide +kernel
theorem dX4_latest_11 : decode cX4_latest 11 = .ok (.astore 4, 2) := by decide +kernel
theorem dX4_latest_13 : decode cX4_latest 13 = .ok (.aload_n 3, 1) := by decide +kernel
theorem dX4_latest_14 : decode cX4_latest 14 = .ok (.ifnull 8, 3) := by decide +kernel
theorem dX4_latest_17 : decode cX4_latest 17 = .ok (.aload 4, 2) := by decide +kernel
theorem dX4_latest_19 : decode cX4_latest 19 = .ok (.ifnonnull 5, 3) := by decide +kernel
theorem dX4_latest_22 : decode cX4_latest 22 = .ok (.lconst 0, 1) := by decide +kernel
theorem dX4_latest_23 : decode cX4_latest 23 = .ok (.lreturn, 1) := by decide +kernel
theorem dX4_latest_24 : decode cX4_latest 24 = .ok (.aload_n 3, 1) := by decide +kernel
theorem dX4_latest_25 : decode cX4_latest 25 = .ok (.aload 4, 2) := by decide +kernel
theorem dX4_latest_27 : decode cX4_latest 27 = .ok (.aload_n 3, 1) := by decide +kernel
theorem dX4_latest_28 : decode cX4_latest 28 = .ok (.getfield 204, 3) := by decide +kernel
theorem dX4_latest_31 : decode cX4_latest 31 = .ok (.invokevirtual 91, 3) := by decide +kernel
theorem dX4_latest_34 : decode cX4_latest 34 = .ok (.lreturn, 1) := by decide +kernel
theorem dX4_sum_0 : decode cX4_sum 0 = .ok (.aload_n 0, 1) := by decide +kernel
theorem dX4_sum_1 : decode cX4_sum 1 = .ok (.iload_n 1, 1) := by decide +kernel
theorem dX4_sum_2 : decode cX4_sum 2 = .ok (.invokevirtual 42, 3) := by decide +kernel
theorem dX4_sum_5 : decode cX4_sum 5 = .ok (.astore 4, 2) := by decide +kernel
theorem dX4_sum_7 : decode cX4_sum 7 = .ok (.aload_n 0, 1) := by decide +kernel
theorem dX4_sum_8 : decode cX4_sum 8 = .ok (.iload_n 2, 1) := by decide +kernel
theorem dX4_sum_9 : decode cX4_sum 9 = .ok (.invokevirtual 95, 3) := by decide +kernel
theorem dX4_sum_12 : decode cX4_sum 12 = .ok (.astore 5, 2) := by decide +kernel
theorem dX4_sum_14 : decode cX4_sum 14 = .ok (.aload 4, 2) := by decide +kernel
theorem dX4_sum_16 : decode cX4_sum 16 = .ok (.ifnull 15, 3) := by decide +kernel
theorem dX4_sum_19 : decode cX4_sum 19 = .ok (.aload 5, 2) := by decide +kernel
theorem dX4_sum_21 : decode cX4_sum 21 = .ok (.ifnull 10, 3) := by decide +kernel
theorem dX4_sum_24 : decode cX4_sum 24 = .ok (.iload_n 3, 1) := by decide +kernel
theorem dX4_sum_25 : decode cX4_sum 25 = .ok (.invokestatic 98, 3) := by decide +kernel
theorem dX4_sum_28 : decode cX4_sum 28 = .ok (.ifCond .ne 5, 3) := by decide +kernel
theorem dX4_sum_31 : decode cX4_sum 31 = .ok (.lconst 0, 1) := by decide +kernel
theorem dX4_sum_32 : decode cX4_sum 32 = .ok (.lreturn, 1) := by decide +kernel
theorem dX4_sum_33 : decode cX4_sum 33 = .ok (.aload 4, 2) := by decide +kernel
theorem dX4_sum_35 : decode cX4_sum 35 = .ok (.aload 5, 2) := by decide +kernel
theorem dX4_sum_37 : decode cX4_sum 37 = .ok (.iload_n 3, 1) := by decide +kernel
theorem dX4_sum_38 : decode cX4_sum 38 = .ok (.invokevirtual 102, 3) := by decide +kernel
theorem dX4_sum_41 : decode cX4_sum 41 = .ok (.aload 4, 2) := by decide +kernel
theorem dX4_sum_43 : decode cX4_sum 43 = .ok (.getfield 204, 3) := by decide +kernel
theorem dX4_sum_46 : decode cX4_sum 46 = .ok (.invokevirtual 109, 3) := by decide +kernel
theorem dX4_sum_49 : decode cX4_sum 49 = .ok (.lreturn, 1) := by decide +kernel
theorem dX4_locked_0 : decode cX4_locked 0 = .ok (.aload_n 0, 1) := by decide +kernel
theorem dX4_locked_1 : decode cX4_locked 1 = .ok (.iload_n 1, 1) := by decide +kernel
theorem dX4_locked_2 : decode cX4_locked 2 = .ok (.invokevirtual 42, 3) := by decide +kernel
theorem dX4_locked_5 : decode cX4_locked 5 = .ok (.astore_n 3, 1) := by decide +kernel
theorem dX4_locked_6 : decode cX4_locked 6 = .ok (.aload_n 0, 1) := by decide +kernel
theorem dX4_locked_7 : decode cX4_locked 7 = .ok (.iload_n 2, 1) := by decide +kernel
theorem dX4_locked_8 : decode cX4_locked 8 = .ok (.invokevirtual 207, 3) := by decide +kernel
theorem dX4_locked_11 : decode cX4_locked 11 = .ok (.astore 4, 2) := by decide +kernel
theorem dX4_locked_13 : decode cX4_locked 13 = .ok (.aload_n 3, 1) := by decide +kernel
theorem dX4_locked_14 : decode cX4_locked 14 = .ok (.ifnull 8, 3) := by decide +kernel
theorem dX4_locked_17 : decode cX4_locked 17 = .ok (.aload 4, 2) := by decide +kernel
theorem dX4_locked_19 : decode cX4_locked 19 = .ok (.ifnonnull 5, 3) := by decide +kernel
theorem dX4_locked_22 : decode cX4_locked 22 = .ok (.iconst (-1), 1) := by decide +kernel
theorem dX4_locked_23 : decode cX4_locked 23 = .ok (.ireturn, 1) := by decide +kernel
theorem dX4_locked_24 : decode cX4_locked 24 = .ok (.aload_n 3, 1) := by decide +kernel
theorem dX4_locked_25 : decode cX4_locked 25 = .ok (.getfield 210, 3) := by decide +kernel
theorem dX4_locked_28 : decode cX4_locked 28 = .ok (.aload 4, 2) := by decide +kernel
theorem dX4_locked_30 : decode cX4_locked 30 = .ok (.getfield 76, 3) := by decide +kernel
theorem dX4_locked_33 : decode cX4_locked 33 = .ok (.iaload, 1) := by decide +kernel
theorem dX4_locked_34 : decode cX4_locked 34 = .ok (.ireturn, 1) := by decide +kernel
theorem dX4_sees_0 : decode cX4_sees 0 = .ok (.aload_n 0, 1) := by decide +kernel
theorem dX4_sees_1 : decode cX4_sees 1 = .ok (.iload_n 1, 1) := by decide +kernel
theorem dX4_sees_2 : decode cX4_sees 2 = .ok (.invokevirtual 64, 3) := by decide +kernel
theorem dX4_sees_5 : decode cX4_sees 5 = .ok (.astore_n 3, 1) := by decide +kernel
theorem dX4_sees_6 : decode cX4_sees 6 = .ok (.aload_n 0, 1) := by decide +kernel
theorem dX4_sees_7 : decode cX4_sees 7 = .ok (.iload_n 2, 1) := by decide +kernel
theorem dX4_sees_8 : decode cX4_sees 8 = .ok (.invokevirtual 64, 3) := by decide +kernel
theorem dX4_sees_11 : decode cX4_sees 11 = .ok (.astore 4, 2) := by decide +kernel
theorem dX4_sees_13 : decode cX4_sees 13 = .ok (.aload_n 3, 1) := by decide +kernel
theorem dX4_sees_14 : decode cX4_sees 14 = .ok (.ifnull 8, 3) := by decide +kernel
theorem dX4_sees_17 : decode cX4_sees 17 = .ok (.aload 4, 2) := by decide +kernel
theorem dX4_sees_19 : decode cX4_sees 19 = .ok (.ifnonnull 5, 3) := by decide +kernel
theorem dX4_sees_22 : decode cX4_sees 22 = .ok (.iconst (-1), 1) := by decide +kernel
theorem dX4_sees_23 : decode cX4_sees 23 = .ok (.ireturn, 1) := by decide +kernel
theorem dX4_sees_24 : decode cX4_sees 24 = .ok (.aload 4, 2) := by decide +kernel
theorem dX4_sees_26 : decode cX4_sees 26 = .ok (.invokevirtual 213, 3) := by decide +kernel
theorem dX4_sees_29 : decode cX4_sees 29 = .ok (.ifCond .ne 6, 3) := by decide +kernel
theorem dX4_sees_32 : decode cX4_sees 32 = .ok (.bipush (-4), 2) := by decide +kernel
theorem dX4_sees_34 : decode cX4_sees 34 = .ok (.ireturn, 1) := by decide +kernel
theorem dX4_sees_35 : decode cX4_sees 35 = .ok (.iload_n 1, 1) := by decide +kernel
theorem dX4_sees_36 : decode cX4_sees 36 = .ok (.iload_n 2, 1) := by decide +kernel
theorem dX4_sees_37 : decode cX4_sees 37 = .ok (.if_icmp .eq 15, 3) := by decide +kernel
theorem dX4_sees_40 : decode cX4_sees 40 = .ok (.aload 4, 2) := by decide +kernel
theorem dX4_sees_42 : decode cX4_sees 42 = .ok (.aload_n 3, 1) := by decide +kernel
theorem dX4_sees_43 : decode cX4_sees 43 = .ok (.getfield 87, 3) := by decide +kernel
theorem dX4_sees_46 : decode cX4_sees 46 = .ok (.invokevirtual 216, 3) := by decide +kernel
theorem dX4_sees_49 : decode cX4_sees 49 = .ok (.ifCond .eq 7, 3) := by decide +kernel
theorem dX4_sees_52 : decode cX4_sees 52 = .ok (.iconst 1, 1) := by decide +kernel
theorem dX4_sees_53 : decode cX4_sees 53 = .ok (.goto 4, 3) := by decide +kernel
theorem dX4_sees_56 : decode cX4_sees 56 = .ok (.iconst 0, 1) := by decide +kernel
theorem dX4_sees_57 : decode cX4_sees 57 = .ok (.invokestatic 185, 3) := by decide +kernel
theorem dX4_sees_60 : decode cX4_sees 60 = .ok (.ireturn, 1) := by decide +kernel
theorem dX4_calm_0 : decode cX4_calm 0 = .ok (.iconst 0, 1) := by decide +kernel
theorem dX4_calm_1 : decode cX4_calm 1 = .ok (.istore_n 1, 1) := by decide +kernel
theorem dX4_calm_2 : decode cX4_calm 2 = .ok (.iload_n 1, 1) := by decide +kernel
theorem dX4_calm_3 : decode cX4_calm 3 = .ok (.aload_n 0, 1) := by decide +kernel
theorem dX4_calm_4 : decode cX4_calm 4 = .ok (.getfield 15, 3) := by decide +kernel
theorem dX4_calm_7 : decode cX4_calm 7 = .ok (.if_icmp .ge 52, 3) := by decide +kernel
theorem dX4_calm_10 : decode cX4_calm 10 = .ok (.iconst 0, 1) := by decide +kernel
theorem dX4_calm_11 : decode cX4_calm 11 = .ok (.istore_n 2, 1) := by decide +kernel
theorem dX4_calm_12 : decode cX4_calm 12 = .ok (.iload_n 2, 1) := by decide +kernel
theorem dX4_calm_13 : decode cX4_calm 13 = .ok (.aload_n 0, 1) := by decide +kernel
theorem dX4_calm_14 : decode cX4_calm 14 = .ok (.getfield 15, 3) := by decide +kernel
theorem dX4_calm_17 : decode cX4_calm 17 = .ok (.if_icmp .ge 36, 3) := by decide +kernel
theorem dX4_calm_20 : decode cX4_calm 20 = .ok (.aload_n 0, 1) := by decide +kernel
theorem dX4_calm_21 : decode cX4_calm 21 = .ok (.getfield 11, 3) := by decide +kernel
theorem dX4_calm_24 : decode cX4_calm 24 = .ok (.iload_n 1, 1) := by decide +kernel
theorem dX4_calm_25 : decode cX4_calm 25 = .ok (.aaload, 1) := by decide +kernel
theorem dX4_calm_26 : decode cX4_calm 26 = .ok (.getfield 204, 3) := by decide +kernel
theorem dX4_calm_29 : decode cX4_calm 29 = .ok (.iload_n 2, 1) := by decide +kernel
theorem dX4_calm_30 : decode cX4_calm 30 = .ok (.iaload, 1) := by decide +kernel
theorem dX4_calm_31 : decode cX4_calm 31 = .ok (.aload_n 0, 1) := by decide +kernel
theorem dX4_calm_32 : decode cX4_calm 32 = .ok (.getfield 11, 3) := by decide +kernel
theorem dX4_calm_35 : decode cX4_calm 35 = .ok (.iload_n 2, 1) := by decide +kernel
theorem dX4_calm_36 : decode cX4_calm 36 = .ok (.aaload, 1) := by decide +kernel
theorem dX4_calm_37 : decode cX4_calm 37 = .ok (.getfield 204, 3) := by decide +kernel
theorem dX4_calm_40 : decode cX4_calm 40 = .ok (.iload_n 2, 1) := by decide +kernel
theorem dX4_calm_41 : decode cX4_calm 41 = .ok (.iaload, 1) := by decide +kernel
theorem dX4_calm_42 : decode cX4_calm 42 = .ok (.if_icmp .eq 5, 3) := by decide +kernel
theorem dX4_calm_45 : decode cX4_calm 45 = .ok (.iconst 0, 1) := by decide +kernel
theorem dX4_calm_46 : decode cX4_calm 46 = .ok (.ireturn, 1) := by decide +kernel
theorem dX4_calm_47 : decode cX4_calm 47 = .ok (.iinc 2 1, 3) := by decide +kernel
theorem dX4_calm_50 : decode cX4_calm 50 = .ok (.goto (-38), 3) := by decide +kernel
theorem dX4_calm_53 : decode cX4_calm 53 = .ok (.iinc 1 1, 3) := by decide +kernel
theorem dX4_calm_56 : decode cX4_calm 56 = .ok (.goto (-54), 3) := by decide +kernel
theorem dX4_calm_59 : decode cX4_calm 59 = .ok (.iconst 1, 1) := by decide +kernel
theorem dX4_calm_60 : decode cX4_calm 60 = .ok (.ireturn, 1) := by decide +kernel
theorem dX4_count_0 : decode cX4_count 0 = .ok (.iload_n 1, 1) := by decide +kernel
theorem dX4_count_1 : decode cX4_count 1 = .ok (.tableswitch 116 0 9 #[55, 60, 65, 73, 81, 89, 95, 101, 106, 111], 55) := by decide +kernel
theorem dX4_count_56 : decode cX4_count 56 = .ok (.aload_n 0, 1) := by decide +kernel
theorem dX4_count_57 : decode cX4_count 57 = .ok (.getfield 15, 3) := by decide +kernel
theorem dX4_count_60 : decode cX4_count 60 = .ok (.ireturn, 1) := by decide +kernel
theorem dX4_count_61 : decode cX4_count 61 = .ok (.aload_n 0, 1) := by decide +kernel
theorem dX4_count_62 : decode cX4_count 62 = .ok (.getfield 19, 3) := by decide +kernel
theorem dX4_count_65 : decode cX4_count 65 = .ok (.ireturn, 1) := by decide +kernel
theorem dX4_count_66 : decode cX4_count 66 = .ok (.aload_n 0, 1) := by decide +kernel
theorem dX4_count_67 : decode cX4_count 67 = .ok (.getfield 25, 3) := by decide +kernel
theorem dX4_count_70 : decode cX4_count 70 = .ok (.invokevirtual 46, 3) := by decide +kernel
theorem dX4_count_73 : decode cX4_count 73 = .ok (.ireturn, 1) := by decide +kernel
theorem dX4_count_74 : decode cX4_count 74 = .ok (.aload_n 0, 1) := by decide +kernel
theorem dX4_count_75 : decode cX4_count 75 = .ok (.getfield 29, 3) := by decide +kernel
theorem dX4_count_78 : decode cX4_count 78 = .ok (.invokevirtual 46, 3) := by decide +kernel
theorem dX4_count_81 : decode cX4_count 81 = .ok (.ireturn, 1) := by decide +kernel
theorem dX4_count_82 : decode cX4_count 82 = .ok (.aload_n 0, 1) := by decide +kernel
theorem dX4_count_83 : decode cX4_count 83 = .ok (.getfield 32, 3) := by decide +kernel
theorem dX4_count_86 : decode cX4_count 86 = .ok (.invokevirtual 46, 3) := by decide +kernel
theorem dX4_count_89 : decode cX4_count 89 = .ok (.ireturn, 1) := by decide +kernel
theorem dX4_count_90 : decode cX4_count 90 = .ok (.aload_n 0, 1) := by decide +kernel
theorem dX4_count_91 : decode cX4_count 91 = .ok (.iconst 2, 1) := by decide +kernel
theorem dX4_count_92 : decode cX4_count 92 = .ok (.invokevirtual 220, 3) := by decide +kernel
theorem dX4_count_95 : decode cX4_count 95 = .ok (.ireturn, 1) := by decide +kernel
theorem dX4_count_96 : decode cX4_count 96 = .ok (.aload_n 0, 1) := by decide +kernel
theorem dX4_count_97 : decode cX4_count 97 = .ok (.iconst 3, 1) := by decide +kernel
theorem dX4_count_98 : decode cX4_count 98 = .ok (.invokevirtual 220, 3) := by decide +kernel
theorem dX4_count_101 : decode cX4_count 101 = .ok (.ireturn, 1) := by decide +kernel
theorem dX4_count_102 : decode cX4_count 102 = .ok (.aload_n 0, 1) := by decide +kernel
theorem dX4_count_103 : decode cX4_count 103 = .ok (.invokevirtual 223, 3) := by decide +kernel
theorem dX4_count_106 : decode cX4_count 106 = .ok (.ireturn, 1) := by decide +kernel
theorem dX4_count_107 : decode cX4_count 107 = .ok (.aload_n 0, 1) := by decide +kernel
theorem dX4_count_108 : decode cX4_count 108 = .ok (.invokevirtual 226, 3) := by decide +kernel
theorem dX4_count_111 : decode cX4_count 111 = .ok (.ireturn, 1) := by decide +kernel
theorem dX4_count_112 : decode cX4_count 112 = .ok (.aload_n 0, 1) := by decide +kernel
theorem dX4_count_113 : decode cX4_count 113 = .ok (.invokevirtual 229, 3) := by decide +kernel
theorem dX4_count_116 : decode cX4_count 116 = .ok (.ireturn, 1) := by decide +kernel
theorem dX4_count_117 : decode cX4_count 117 = .ok (.iconst (-1), 1) := by decide +kernel
theorem dX4_count_118 : decode cX4_count 118 = .ok (.ireturn, 1) := by decide +kernel
theorem dX4_findSite_0 : decode cX4_findSite 0 = .ok (.iload_n 1, 1) := by decide +kernel
theorem dX4_findSite_1 : decode cX4_findSite 1 = .ok (.ifCond .lt 20, 3) := by decide +kernel
theorem dX4_findSite_4 : decode cX4_findSite 4 = .ok (.iload_n 1, 1) := by decide +kernel
theorem dX4_findSite_5 : decode cX4_findSite 5 = .ok (.aload_n 0, 1) := by decide +kernel
theorem dX4_findSite_6 : decode cX4_findSite 6 = .ok (.getfield 15, 3) := by decide +kernel
theorem dX4_findSite_9 : decode cX4_findSite 9 = .ok (.if_icmp .ge 12, 3) := by decide +kernel
theorem dX4_findSite_12 : decode cX4_findSite 12 = .ok (.aload_n 0, 1) := by decide +kernel
theorem dX4_findSite_13 : decode cX4_findSite 13 = .ok (.getfield 11, 3) := by decide +kernel
theorem dX4_findSite_16 : decode cX4_findSite 16 = .ok (.iload_n 1, 1) := by decide +kernel
theorem dX4_findSite_17 : decode cX4_findSite 17 = .ok (.aaload, 1) := by decide +kernel
theorem dX4_findSite_18 : decode cX4_findSite 18 = .ok (.goto 4, 3) := by decide +kernel
theorem dX4_findSite_21 : decode cX4_findSite 21 = .ok (.aconst_null, 1) := by decide +kernel
theorem dX4_findSite_22 : decode cX4_findSite 22 = .ok (.areturn, 1) := by decide +kernel
theorem dX4_findThing_0 : decode cX4_findThing 0 = .ok (.iload_n 1, 1) := by decide +kernel
theorem dX4_findThing_1 : decode cX4_findThing 1 = .ok (.ifCond .lt 28, 3) := by decide +kernel
theorem dX4_findThing_4 : decode cX4_findThing 4 = .ok (.iload_n 1, 1) := by decide +kernel
theorem dX4_findThing_5 : decode cX4_findThing 5 = .ok (.aload_n 0, 1) := by decide +kernel
theorem dX4_findThing_6 : decode cX4_findThing 6 = .ok (.getfield 25, 3) := by decide +kernel
theorem dX4_findThing_9 : decode cX4_findThing 9 = .ok (.invokevirtual 46, 3) := by decide +kernel
theorem dX4_findThing_12 : decode cX4_findThing 12 = .ok (.if_icmp .ge 17, 3) := by decide +kernel
theorem dX4_findThing_15 : decode cX4_findThing 15 = .ok (.aload_n 0, 1) := by decide +kernel
theorem dX4_findThing_16 : decode cX4_findThing 16 = .ok (.getfield 25, 3) := by decide +kernel
theorem dX4_findThing_19 : decode cX4_findThing 19 = .ok (.iload_n 1, 1) := by decide +kernel
theorem dX4_findThing_20 : decode cX4_findThing 20 = .ok (.invokevirtual 232, 3) := by decide +kernel
theorem dX4_findThing_23 : decode cX4_findThing 23 = .ok (.checkcast 50, 3) := by decide +kernel
theorem dX4_findThing_26 : decode cX4_findThing 26 = .ok (.goto 4, 3) := by decide +kernel
theorem dX4_findThing_29 : decode cX4_findThing 29 = .ok (.aconst_null, 1) := by decide +kernel
theorem dX4_findThing_30 : decode cX4_findThing 30 = .ok (.areturn, 1) := by decide +kernel
theorem dX4_findPlain_0 : decode cX4_findPlain 0 = .ok (.aload_n 0, 1) := by decide +kernel
theorem dX4_findPlain_1 : decode cX4_findPlain 1 = .ok (.iload_n 1, 1) := by decide +kernel
theorem dX4_findPlain_2 : decode cX4_findPlain 2 = .ok (.invokevirtual 207, 3) := by decide +kernel
theorem dX4_findPlain_5 : decode cX4_findPlain 5 = .ok (.astore_n 2, 1) := by decide +kernel
theorem dX4_findPlain_6 : decode cX4_findPlain 6 = .ok (.aload_n 2, 1) := by decide +kernel
theorem dX4_findPlain_7 : decode cX4_findPlain 7 = .ok (.ifnull 14, 3) := by decide +kernel
theorem dX4_findPlain_10 : decode cX4_findPlain 10 = .ok (.aload_n 2, 1) := by decide +kernel
theorem dX4_findPlain_11 : decode cX4_findPlain 11 = .ok (.getfield 235, 3) := by decide +kernel
theorem dX4_findPlain_14 : decode cX4_findPlain 14 = .ok (.ifCond .ne 7, 3) := by decide +kernel
theorem dX4_findPlain_17 : decode cX4_findPlain 17 = .ok (.aload_n 2, 1) := by decide +kernel
theorem dX4_findPlain_18 : decode cX4_findPlain 18 = .ok (.goto 4, 3) := by decide +kernel
theorem dX4_findPlain_21 : decode cX4_findPlain 21 = .ok (.aconst_null, 1) := by decide +kernel
theorem dX4_findPlain_22 : decode cX4_findPlain 22 = .ok (.areturn, 1) := by decide +kernel
theorem dX4_findSet_0 : decode cX4_findSet 0 = .ok (.aload_n 0, 1) := by decide +kernel
theorem dX4_findSet_1 : decode cX4_findSet 1 = .ok (.iload_n 1, 1) := by decide +kernel
theorem dX4_findSet_2 : decode cX4_findSet 2 = .ok (.invokevirtual 207, 3) := by decide +kernel
theorem dX4_findSet_5 : decode cX4_findSet 5 = .ok (.astore_n 2, 1) := by decide +kernel
theorem dX4_findSet_6 : decode cX4_findSet 6 = .ok (.aload_n 2, 1) := by decide +kernel
theorem dX4_findSet_7 : decode cX4_findSet 7 = .ok (.ifnull 14, 3) := by decide +kernel
theorem dX4_findSet_10 : decode cX4_findSet 10 = .ok (.aload_n 2, 1) := by decide +kernel
theorem dX4_findSet_11 : decode cX4_findSet 11 = .ok (.getfield 235, 3) := by decide +kernel
theorem dX4_findSet_14 : decode cX4_findSet 14 = .ok (.ifCond .eq 7, 3) := by decide +kernel
theorem dX4_findSet_17 : decode cX4_findSet 17 = .ok (.aload_n 2, 1) := by decide +kernel
theorem dX4_findSet_18 : decode cX4_findSet 18 = .ok (.goto 4, 3) := by decide +kernel
theorem dX4_findSet_21 : decode cX4_findSet 21 = .ok (.aconst_null, 1) := by decide +kernel
theorem dX4_findSet_22 : decode cX4_findSet 22 = .ok (.areturn, 1) := by decide +kernel
theorem dX4_findTransaction_0 : decode cX4_findTransaction 0 = .ok (.iload_n 1, 1) := by decide +kernel
theorem dX4_findTransaction_1 : decode cX4_findTransaction 1 = .ok (.ifCond .lt 28, 3) := by decide +kernel
theorem dX4_findTransaction_4 : decode cX4_findTransaction 4 = .ok (.iload_n 1, 1) := by decide +kernel
theorem dX4_findTransaction_5 : decode cX4_findTransaction 5 = .ok (.aload_n 0, 1) := by decide +kernel
theorem dX4_findTransaction_6 : decode cX4_findTransaction 6 = .ok (.getfield 29, 3) := by decide +kernel
theorem dX4_findTransaction_9 : decode cX4_findTransaction 9 = .ok (.invokevirtual 46, 3) := by decide +kernel
theorem dX4_findTransaction_12 : decode cX4_findTransaction 12 = .ok (.if_icmp .ge 17, 3) := by decide +kernel
theorem dX4_findTransaction_15 : decode cX4_findTransaction 15 = .ok (.aload_n 0, 1) := by decide +kernel
theorem dX4_findTransaction_16 : decode cX4_findTransaction 16 = .ok (.getfield 29, 3) := by decide +kernel
theorem dX4_findTransaction_19 : decode cX4_findTransaction 19 = .ok (.iload_n 1, 1) := by decide +kernel
theorem dX4_findTransaction_20 : decode cX4_findTransaction 20 = .ok (.invokevirtual 232, 3) := by decide +kernel
theorem dX4_findTransaction_23 : decode cX4_findTransaction 23 = .ok (.checkcast 59, 3) := by decide +kernel
theorem dX4_findTransaction_26 : decode cX4_findTransaction 26 = .ok (.goto 4, 3) := by decide +kernel
theorem dX4_findTransaction_29 : decode cX4_findTransaction 29 = .ok (.aconst_null, 1) := by decide +kernel
theorem dX4_findTransaction_30 : decode cX4_findTransaction 30 = .ok (.areturn, 1) := by decide +kernel
theorem dX4_findMessage_0 : decode cX4_findMessage 0 = .ok (.iload_n 1, 1) := by decide +kernel
theorem dX4_findMessage_1 : decode cX4_findMessage 1 = .ok (.ifCond .lt 28, 3) := by decide +kernel
theorem dX4_findMessage_4 : decode cX4_findMessage 4 = .ok (.iload_n 1, 1) := by decide +kernel
theorem dX4_findMessage_5 : decode cX4_findMessage 5 = .ok (.aload_n 0, 1) := by decide +kernel
theorem dX4_findMessage_6 : decode cX4_findMessage 6 = .ok (.getfield 32, 3) := by decide +kernel
theorem dX4_findMessage_9 : decode cX4_findMessage 9 = .ok (.invokevirtual 46, 3) := by decide +kernel
theorem dX4_findMessage_12 : decode cX4_findMessage 12 = .ok (.if_icmp .ge 17, 3) := by decide +kernel
theorem dX4_findMessage_15 : decode cX4_findMessage 15 = .ok (.aload_n 0, 1) := by decide +kernel
theorem dX4_findMessage_16 : decode cX4_findMessage 16 = .ok (.getfield 32, 3) := by decide +kernel
theorem dX4_findMessage_19 : decode cX4_findMessage 19 = .ok (.iload_n 1, 1) := by decide +kernel
theorem dX4_findMessage_20 : decode cX4_findMessage 20 = .ok (.invokevirtual 232, 3) := by decide +kernel
theorem dX4_findMessage_23 : decode cX4_findMessage 23 = .ok (.checkcast 155, 3) := by decide +kernel
theorem dX4_findMessage_26 : decode cX4_findMessage 26 = .ok (.goto 4, 3) := by decide +kernel
theorem dX4_findMessage_29 : decode cX4_findMessage 29 = .ok (.aconst_null, 1) := by decide +kernel
theorem dX4_findMessage_30 : decode cX4_findMessage 30 = .ok (.areturn, 1) := by decide +kernel
theorem dX4_isElement_0 : decode cX4_isElement 0 = .ok (.iload_n 0, 1) := by decide +kernel
theorem dX4_isElement_1 : decode cX4_isElement 1 = .ok (.ifCond .lt 13, 3) := by decide +kernel
theorem dX4_isElement_4 : decode cX4_isElement 4 = .ok (.iload_n 0, 1) := by decide +kernel
theorem dX4_isElement_5 : decode cX4_isElement 5 = .ok (.bipush 8, 2) := by decide +kernel
theorem dX4_isElement_7 : decode cX4_isElement 7 = .ok (.if_icmp .ge 7, 3) := by decide +kernel
theorem dX4_isElement_10 : decode cX4_isElement 10 = .ok (.iconst 1, 1) := by decide +kernel
theorem dX4_isElement_11 : decode cX4_isElement 11 = .ok (.goto 4, 3) := by decide +kernel
theorem dX4_isElement_14 : decode cX4_isElement 14 = .ok (.iconst 0, 1) := by decide +kernel
theorem dX4_isElement_15 : decode cX4_isElement 15 = .ok (.ireturn, 1) := by decide +kernel
theorem dX4_oneIf_0 : decode cX4_oneIf 0 = .ok (.iload_n 0, 1) := by decide +kernel
theorem dX4_oneIf_1 : decode cX4_oneIf 1 = .ok (.ifCond .eq 7, 3) := by decide +kernel
theorem dX4_oneIf_4 : decode cX4_oneIf 4 = .ok (.iconst 1, 1) := by decide +kernel
theorem dX4_oneIf_5 : decode cX4_oneIf 5 = .ok (.goto 4, 3) := by decide +kernel
theorem dX4_oneIf_8 : decode cX4_oneIf 8 = .ok (.iconst 0, 1) := by decide +kernel
theorem dX4_oneIf_9 : decode cX4_oneIf 9 = .ok (.ireturn, 1) := by decide +kernel
theorem dX4_isPlainOf_0 : decode cX4_isPlainOf 0 = .ok (.aload_n 0, 1) := by decide +kernel
theorem dX4_isPlainOf_1 : decode cX4_isPlainOf 1 = .ok (.getfield 72, 3) := by decide +kernel
theorem dX4_isPlainOf_4 : decode cX4_isPlainOf 4 = .ok (.aload_n 1, 1) := by decide +kernel
theorem dX4_isPlainOf_5 : decode cX4_isPlainOf 5 = .ok (.getfield 76, 3) := by decide +kernel
theorem dX4_isPlainOf_8 : decode cX4_isPlainOf 8 = .ok (.baload, 1) := by decide +kernel
theorem dX4_isPlainOf_9 : decode cX4_isPlainOf 9 = .ok (.ifCond .eq 15, 3) := by decide +kernel
theorem dX4_isPlainOf_12 : decode cX4_isPlainOf 12 = .ok (.aload_n 1, 1) := by decide +kernel
theorem dX4_isPlainOf_13 : decode cX4_isPlainOf 13 = .ok (.getfield 239, 3) := by decide +kernel
theorem dX4_isPlainOf_16 : decode cX4_isPlainOf 16 = .ok (.aload_n 2, 1) := by decide +kernel
theorem dX4_isPlainOf_17 : decode cX4_isPlainOf 17 = .ok (.if_acmp .ne 7, 3) := by decide +kernel
theorem dX4_isPlainOf_20 : decode cX4_isPlainOf 20 = .ok (.iconst 1, 1) := by decide +kernel
theorem dX4_isPlainOf_21 : decode cX4_isPlainOf 21 = .ok (.goto 4, 3) := by decide +kernel
theorem dX4_isPlainOf_24 : decode cX4_isPlainOf 24 = .ok (.iconst 0, 1) := by decide +kernel
theorem dX4_isPlainOf_25 : decode cX4_isPlainOf 25 = .ok (.ireturn, 1) := by decide +kernel
theorem dX4_hasHome_0 : decode cX4_hasHome 0 = .ok (.iconst 0, 1) := by decide +kernel
theorem dX4_hasHome_1 : decode cX4_hasHome 1 = .ok (.istore_n 3, 1) := by decide +kernel
theorem dX4_hasHome_2 : decode cX4_hasHome 2 = .ok (.iload_n 3, 1) := by decide +kernel
theorem dX4_hasHome_3 : decode cX4_hasHome 3 = .ok (.aload_n 0, 1) := by decide +kernel
theorem dX4_hasHome_4 : decode cX4_hasHome 4 = .ok (.getfield 25, 3) := by decide +kernel
theorem dX4_hasHome_7 : decode cX4_hasHome 7 = .ok (.invokevirtual 46, 3) := by decide +kernel
theorem dX4_hasHome_10 : decode cX4_hasHome 10 = .ok (.if_icmp .ge 30, 3) := by decide +kernel
theorem dX4_hasHome_13 : decode cX4_hasHome 13 = .ok (.aload_n 1, 1) := by decide +kernel
theorem dX4_hasHome_14 : decode cX4_hasHome 14 = .ok (.aload_n 0, 1) := by decide +kernel
theorem dX4_hasHome_15 : decode cX4_hasHome 15 = .ok (.getfield 25, 3) := by decide +kernel
theorem dX4_hasHome_18 : decode cX4_hasHome 18 = .ok (.iload_n 3, 1) := by decide +kernel
theorem dX4_hasHome_19 : decode cX4_hasHome 19 = .ok (.invokevirtual 232, 3) := by decide +kernel
theorem dX4_hasHome_22 : decode cX4_hasHome 22 = .ok (.checkcast 50, 3) := by decide +kernel
theorem dX4_hasHome_25 : decode cX4_hasHome 25 = .ok (.aload_n 2, 1) := by decide +kernel
theorem dX4_hasHome_26 : decode cX4_hasHome 26 = .ok (.invokestatic 242, 3) := by decide +kernel
theorem dX4_hasHome_29 : decode cX4_hasHome 29 = .ok (.ifCond .eq 5, 3) := by decide +kernel
theorem dX4_hasHome_32 : decode cX4_hasHome 32 = .ok (.iconst 1, 1) := by decide +kernel
theorem dX4_hasHome_33 : decode cX4_hasHome 33 = .ok (.ireturn, 1) := by decide +kernel
theorem dX4_hasHome_34 : decode cX4_hasHome 34 = .ok (.iinc 3 1, 3) := by decide +kernel
theorem dX4_hasHome_37 : decode cX4_hasHome 37 = .ok (.goto (-35), 3) := by decide +kernel
theorem dX4_hasHome_40 : decode cX4_hasHome 40 = .ok (.iconst 0, 1) := by decide +kernel
theorem dX4_hasHome_41 : decode cX4_hasHome 41 = .ok (.ireturn, 1) := by decide +kernel
theorem dX4_hasHomesElsewhere_0 : decode cX4_hasHomesElsewhere 0 = .ok (.iconst 0, 1) := by decide +kernel
theorem dX4_hasHomesElsewhere_1 : decode cX4_hasHomesElsewhere 1 = .ok (.istore_n 2, 1) := by decide +kernel
theorem dX4_hasHomesElsewhere_2 : decode cX4_hasHomesElsewhere 2 = .ok (.iload_n 2, 1) := by decide +kernel
theorem dX4_hasHomesElsewhere_3 : decode cX4_hasHomesElsewhere 3 = .ok (.aload_n 0, 1) := by decide +kernel
theorem dX4_hasHomesElsewhere_4 : decode cX4_hasHomesElsewhere 4 = .ok (.getfield 15, 3) := by decide +kernel
theorem dX4_hasHomesElsewhere_7 : decode cX4_hasHomesElsewhere 7 = .ok (.if_icmp .ge 38, 3) := by decide +kernel
theorem dX4_hasHomesElsewhere_10 : decode cX4_hasHomesElsewhere 10 = .ok (.aload_n 0, 1) := by decide +kernel
theorem dX4_hasHomesElsewhere_11 : decode cX4_hasHomesElsewhere 11 = .ok (.getfield 11, 3) := by decide +kernel
theorem dX4_hasHomesElsewhere_14 : decode cX4_hasHomesElsewhere 14 = .ok (.iload_n 2, 1) := by decide +kernel
theorem dX4_hasHomesElsewhere_15 : decode cX4_hasHomesElsewhere 15 = .ok (.aaload, 1) := by decide +kernel
theorem dX4_hasHomesElsewhere_16 : decode cX4_hasHomesElsewhere 16 = .ok (.aload_n 1, 1) := by decide +kernel
theorem dX4_hasHomesElsewhere_17 : decode cX4_hasHomesElsewhere 17 = .ok (.getfield 83, 3) := by decide +kernel
theorem dX4_hasHomesElsewhere_20 : decode cX4_hasHomesElsewhere 20 = .ok (.if_acmp .eq 19, 3) := by decide +kernel
theorem dX4_hasHomesElsewhere_23 : decode cX4_hasHomesElsewhere 23 = .ok (.aload_n 0, 1) := by decide +kernel
theorem dX4_hasHomesElsewhere_24 : decode cX4_hasHomesElsewhere 24 = .ok (.aload_n 1, 1) := by decide +kernel
theorem dX4_hasHomesElsewhere_25 : decode cX4_hasHomesElsewhere 25 = .ok (.aload_n 0, 1) := by decide +kernel
theorem dX4_hasHomesElsewhere_26 : decode cX4_hasHomesElsewhere 26 = .ok (.getfield 11, 3) := by decide +kernel
theorem dX4_hasHomesElsewhere_29 : decode cX4_hasHomesElsewhere 29 = .ok (.iload_n 2, 1) := by decide +kernel
theorem dX4_hasHomesElsewhere_30 : decode cX4_hasHomesElsewhere 30 = .ok (.aaload, 1) := by decide +kernel
theorem dX4_hasHomesElsewhere_31 : decode cX4_hasHomesElsewhere 31 = .ok (.invokevirtual 246, 3) := by decide +kernel
theorem dX4_hasHomesElsewhere_34 : decode cX4_hasHomesElsewhere 34 = .ok (.ifCond .eq 5, 3) := by decide +kernel
theorem dX4_hasHomesElsewhere_37 : decode cX4_hasHomesElsewhere 37 = .ok (.iconst 1, 1) := by decide +kernel
theorem dX4_hasHomesElsewhere_38 : decode cX4_hasHomesElsewhere 38 = .ok (.ireturn, 1) := by decide +kernel
theorem dX4_hasHomesElsewhere_39 : decode cX4_hasHomesElsewhere 39 = .ok (.iinc 2 1, 3) := by decide +kernel
theorem dX4_hasHomesElsewhere_42 : decode cX4_hasHomesElsewhere 42 = .ok (.goto (-40), 3) := by decide +kernel
theorem dX4_hasHomesElsewhere_45 : decode cX4_hasHomesElsewhere 45 = .ok (.iconst 0, 1) := by decide +kernel
theorem dX4_hasHomesElsewhere_46 : decode cX4_hasHomesElsewhere 46 = .ok (.ireturn, 1) := by decide +kernel
theorem dX4_allFree_0 : decode cX4_allFree 0 = .ok (.iconst 0, 1) := by decide +kernel
theorem dX4_allFree_1 : decode cX4_allFree 1 = .ok (.istore_n 3, 1) := by decide +kernel
theorem dX4_allFree_2 : decode cX4_allFree 2 = .ok (.iload_n 3, 1) := by decide +kernel
theorem dX4_allFree_3 : decode cX4_allFree 3 = .ok (.aload_n 0, 1) := by decide +kernel
theorem dX4_allFree_4 : decode cX4_allFree 4 = .ok (.getfield 25, 3) := by decide +kernel
theorem dX4_allFree_7 : decode cX4_allFree 7 = .ok (.invokevirtual 46, 3) := by decide +kernel
theorem dX4_allFree_10 : decode cX4_allFree 10 = .ok (.if_icmp .ge 44, 3) := by decide +kernel
theorem dX4_allFree_13 : decode cX4_allFree 13 = .ok (.aload_n 0, 1) := by decide +kernel
theorem dX4_allFree_14 : decode cX4_allFree 14 = .ok (.getfield 25, 3) := by decide +kernel
theorem dX4_allFree_17 : decode cX4_allFree 17 = .ok (.iload_n 3, 1) := by decide +kernel
theorem dX4_allFree_18 : decode cX4_allFree 18 = .ok (.invokevirtual 232, 3) := by decide +kernel
theorem dX4_allFree_21 : decode cX4_allFree 21 = .ok (.checkcast 50, 3) := by decide +kernel
theorem dX4_allFree_24 : decode cX4_allFree 24 = .ok (.astore 4, 2) := by decide +kernel
theorem dX4_allFree_26 : decode cX4_allFree 26 = .ok (.aload_n 1, 1) := by decide +kernel
theorem dX4_allFree_27 : decode cX4_allFree 27 = .ok (.aload 4, 2) := by decide +kernel
theorem dX4_allFree_29 : decode cX4_allFree 29 = .ok (.aload_n 2, 1) := by decide +kernel
theorem dX4_allFree_30 : decode cX4_allFree 30 = .ok (.invokestatic 242, 3) := by decide +kernel
theorem dX4_allFree_33 : decode cX4_allFree 33 = .ok (.ifCond .eq 15, 3) := by decide +kernel
theorem dX4_allFree_36 : decode cX4_allFree 36 = .ok (.aload_n 2, 1) := by decide +kernel
theorem dX4_allFree_37 : decode cX4_allFree 37 = .ok (.aload 4, 2) := by decide +kernel
theorem dX4_allFree_39 : decode cX4_allFree 39 = .ok (.aload_n 1, 1) := by decide +kernel
theorem dX4_allFree_40 : decode cX4_allFree 40 = .ok (.invokevirtual 249, 3) := by decide +kernel
theorem dX4_allFree_43 : decode cX4_allFree 43 = .ok (.ifCond .ne 5, 3) := by decide +kernel
theorem dX4_allFree_46 : decode cX4_allFree 46 = .ok (.iconst 0, 1) := by decide +kernel
theorem dX4_allFree_47 : decode cX4_allFree 47 = .ok (.ireturn, 1) := by decide +kernel
theorem dX4_allFree_48 : decode cX4_allFree 48 = .ok (.iinc 3 1, 3) := by decide +kernel
theorem dX4_allFree_51 : decode cX4_allFree 51 = .ok (.goto (-49), 3) := by decide +kernel
theorem dX4_allFree_54 : decode cX4_allFree 54 = .ok (.iconst 1, 1) := by decide +kernel
theorem dX4_allFree_55 : decode cX4_allFree 55 = .ok (.ireturn, 1) := by decide +kernel
theorem dX4_lockThings_0 : decode cX4_lockThings 0 = .ok (.iconst 0, 1) := by decide +kernel
theorem dX4_lockThings_1 : decode cX4_lockThings 1 = .ok (.istore_n 3, 1) := by decide +kernel
theorem dX4_lockThings_2 : decode cX4_lockThings 2 = .ok (.iload_n 3, 1) := by decide +kernel
theorem dX4_lockThings_3 : decode cX4_lockThings 3 = .ok (.aload_n 0, 1) := by decide +kernel
theorem dX4_lockThings_4 : decode cX4_lockThings 4 = .ok (.getfield 25, 3) := by decide +kernel
theorem dX4_lockThings_7 : decode cX4_lockThings 7 = .ok (.invokevirtual 46, 3) := by decide +kernel
theorem dX4_lockThings_10 : decode cX4_lockThings 10 = .ok (.if_icmp .ge 46, 3) := by decide +kernel
theorem dX4_lockThings_13 : decode cX4_lockThings 13 = .ok (.aload_n 0, 1) := by decide +kernel
theorem dX4_lockThings_14 : decode cX4_lockThings 14 = .ok (.getfield 25, 3) := by decide +kernel
theorem dX4_lockThings_17 : decode cX4_lockThings 17 = .ok (.iload_n 3, 1) := by decide +kernel
theorem dX4_lockThings_18 : decode cX4_lockThings 18 = .ok (.invokevirtual 232, 3) := by decide +kernel
theorem dX4_lockThings_21 : decode cX4_lockThings 21 = .ok (.checkcast 50, 3) := by decide +kernel
theorem dX4_lockThings_24 : decode cX4_lockThings 24 = .ok (.astore 4, 2) := by decide +kernel
theorem dX4_lockThings_26 : decode cX4_lockThings 26 = .ok (.aload_n 1, 1) := by decide +kernel
theorem dX4_lockThings_27 : decode cX4_lockThings 27 = .ok (.aload 4, 2) := by decide +kernel
theorem dX4_lockThings_29 : decode cX4_lockThings 29 = .ok (.aload_n 2, 1) := by decide +kernel
theorem dX4_lockThings_30 : decode cX4_lockThings 30 = .ok (.invokestatic 242, 3) := by decide +kernel
theorem dX4_lockThings_33 : decode cX4_lockThings 33 = .ok (.ifCond .eq 17, 3) := by decide +kernel
theorem dX4_lockThings_36 : decode cX4_lockThings 36 = .ok (.aload_n 2, 1) := by decide +kernel
theorem dX4_lockThings_37 : decode cX4_lockThings 37 = .ok (.getfield 210, 3) := by decide +kernel
theorem dX4_lockThings_40 : decode cX4_lockThings 40 = .ok (.aload 4, 2) := by decide +kernel
theorem dX4_lockThings_42 : decode cX4_lockThings 42 = .ok (.getfield 76, 3) := by decide +kernel
theorem dX4_lockThings_45 : decode cX4_lockThings 45 = .ok (.aload_n 1, 1) := by decide +kernel
theorem dX4_lockThings_46 : decode cX4_lockThings 46 = .ok (.getfield 184, 3) := by decide +kernel
theorem dX4_lockThings_49 : decode cX4_lockThings 49 = .ok (.iastore, 1) := by decide +kernel
theorem dX4_lockThings_50 : decode cX4_lockThings 50 = .ok (.iinc 3 1, 3) := by decide +kernel
theorem dX4_lockThings_53 : decode cX4_lockThings 53 = .ok (.goto (-51), 3) := by decide +kernel
theorem dX4_lockThings_56 : decode cX4_lockThings 56 = .ok (.return_, 1) := by decide +kernel
theorem dX4_tellHomes_0 : decode cX4_tellHomes 0 = .ok (.iconst 0, 1) := by decide +kernel
theorem dX4_tellHomes_1 : decode cX4_tellHomes 1 = .ok (.istore_n 3, 1) := by decide +kernel
theorem dX4_tellHomes_2 : decode cX4_tellHomes 2 = .ok (.iconst 0, 1) := by decide +kernel
theorem dX4_tellHomes_3 : decode cX4_tellHomes 3 = .ok (.istore 4, 2) := by decide +kernel
theorem dX4_tellHomes_5 : decode cX4_tellHomes 5 = .ok (.iload 4, 2) := by decide +kernel
theorem dX4_tellHomes_7 : decode cX4_tellHomes 7 = .ok (.aload_n 0, 1) := by decide +kernel
theorem dX4_tellHomes_8 : decode cX4_tellHomes 8 = .ok (.getfield 15, 3) := by decide +kernel
theorem dX4_tellHomes_11 : decode cX4_tellHomes 11 = .ok (.if_icmp .ge 58, 3) := by decide +kernel
theorem dX4_tellHomes_14 : decode cX4_tellHomes 14 = .ok (.aload_n 0, 1) := by decide +kernel
theorem dX4_tellHomes_15 : decode cX4_tellHomes 15 = .ok (.getfield 11, 3) := by decide +kernel
theorem dX4_tellHomes_18 : decode cX4_tellHomes 18 = .ok (.iload 4, 2) := by decide +kernel
theorem dX4_tellHomes_20 : decode cX4_tellHomes 20 = .ok (.aaload, 1) := by decide +kernel
theorem dX4_tellHomes_21 : decode cX4_tellHomes 21 = .ok (.aload_n 1, 1) := by decide +kernel
theorem dX4_tellHomes_22 : decode cX4_tellHomes 22 = .ok (.getfield 83, 3) := by decide +kernel
theorem dX4_tellHomes_25 : decode cX4_tellHomes 25 = .ok (.if_acmp .eq 38, 3) := by decide +kernel
theorem dX4_tellHomes_28 : decode cX4_tellHomes 28 = .ok (.aload_n 0, 1) := by decide +kernel
theorem dX4_tellHomes_29 : decode cX4_tellHomes 29 = .ok (.aload_n 1, 1) := by decide +kernel
theorem dX4_tellHomes_30 : decode cX4_tellHomes 30 = .ok (.aload_n 0, 1) := by decide +kernel
theorem dX4_tellHomes_31 : decode cX4_tellHomes 31 = .ok (.getfield 11, 3) := by decide +kernel
theorem dX4_tellHomes_34 : decode cX4_tellHomes 34 = .ok (.iload 4, 2) := by decide +kernel
theorem dX4_tellHomes_36 : decode cX4_tellHomes 36 = .ok (.aaload, 1) := by decide +kernel
theorem dX4_tellHomes_37 : decode cX4_tellHomes 37 = .ok (.invokevirtual 246, 3) := by decide +kernel
theorem dX4_tellHomes_40 : decode cX4_tellHomes 40 = .ok (.ifCond .eq 23, 3) := by decide +kernel
theorem dX4_tellHomes_43 : decode cX4_tellHomes 43 = .ok (.aload_n 0, 1) := by decide +kernel
theorem dX4_tellHomes_44 : decode cX4_tellHomes 44 = .ok (.iload_n 2, 1) := by decide +kernel
theorem dX4_tellHomes_45 : decode cX4_tellHomes 45 = .ok (.aload_n 1, 1) := by decide +kernel
theorem dX4_tellHomes_46 : decode cX4_tellHomes 46 = .ok (.getfield 83, 3) := by decide +kernel
theorem dX4_tellHomes_49 : decode cX4_tellHomes 49 = .ok (.aload_n 0, 1) := by decide +kernel
theorem dX4_tellHomes_50 : decode cX4_tellHomes 50 = .ok (.getfield 11, 3) := by decide +kernel
theorem dX4_tellHomes_53 : decode cX4_tellHomes 53 = .ok (.iload 4, 2) := by decide +kernel
theorem dX4_tellHomes_55 : decode cX4_tellHomes 55 = .ok (.aaload, 1) := by decide +kernel
theorem dX4_tellHomes_56 : decode cX4_tellHomes 56 = .ok (.aload_n 1, 1) := by decide +kernel
theorem dX4_tellHomes_57 : decode cX4_tellHomes 57 = .ok (.invokevirtual 253, 3) := by decide +kernel
theorem dX4_tellHomes_60 : decode cX4_tellHomes 60 = .ok (.iinc 3 1, 3) := by decide +kernel
theorem dX4_tellHomes_63 : decode cX4_tellHomes 63 = .ok (.iinc 4 1, 3) := by decide +kernel
theorem dX4_tellHomes_66 : decode cX4_tellHomes 66 = .ok (.goto (-61), 3) := by decide +kernel
theorem dX4_tellHomes_69 : decode cX4_tellHomes 69 = .ok (.iload_n 3, 1) := by decide +kernel
theorem dX4_tellHomes_70 : decode cX4_tellHomes 70 = .ok (.ireturn, 1) := by decide +kernel
theorem dX4_tellOthers_0 : decode cX4_tellOthers 0 = .ok (.iconst 0, 1) := by decide +kernel
theorem dX4_tellOthers_1 : decode cX4_tellOthers 1 = .ok (.istore_n 3, 1) := by decide +kernel
theorem dX4_tellOthers_2 : decode cX4_tellOthers 2 = .ok (.iload_n 3, 1) := by decide +kernel
theorem dX4_tellOthers_3 : decode cX4_tellOthers 3 = .ok (.aload_n 0, 1) := by decide +kernel
theorem dX4_tellOthers_4 : decode cX4_tellOthers 4 = .ok (.getfield 15, 3) := by decide +kernel
theorem dX4_tellOthers_7 : decode cX4_tellOthers 7 = .ok (.if_icmp .ge 38, 3) := by decide +kernel
theorem dX4_tellOthers_10 : decode cX4_tellOthers 10 = .ok (.aload_n 0, 1) := by decide +kernel
theorem dX4_tellOthers_11 : decode cX4_tellOthers 11 = .ok (.getfield 11, 3) := by decide +kernel
theorem dX4_tellOthers_14 : decode cX4_tellOthers 14 = .ok (.iload_n 3, 1) := by decide +kernel
theorem dX4_tellOthers_15 : decode cX4_tellOthers 15 = .ok (.aaload, 1) := by decide +kernel
theorem dX4_tellOthers_16 : decode cX4_tellOthers 16 = .ok (.aload_n 1, 1) := by decide +kernel
theorem dX4_tellOthers_17 : decode cX4_tellOthers 17 = .ok (.getfield 83, 3) := by decide +kernel
theorem dX4_tellOthers_20 : decode cX4_tellOthers 20 = .ok (.if_acmp .eq 19, 3) := by decide +kernel
theorem dX4_tellOthers_23 : decode cX4_tellOthers 23 = .ok (.aload_n 0, 1) := by decide +kernel
theorem dX4_tellOthers_24 : decode cX4_tellOthers 24 = .ok (.iload_n 2, 1) := by decide +kernel
theorem dX4_tellOthers_25 : decode cX4_tellOthers 25 = .ok (.aload_n 1, 1) := by decide +kernel
theorem dX4_tellOthers_26 : decode cX4_tellOthers 26 = .ok (.getfield 83, 3) := by decide +kernel
theorem dX4_tellOthers_29 : decode cX4_tellOthers 29 = .ok (.aload_n 0, 1) := by decide +kernel
theorem dX4_tellOthers_30 : decode cX4_tellOthers 30 = .ok (.getfield 11, 3) := by decide +kernel
theorem dX4_tellOthers_33 : decode cX4_tellOthers 33 = .ok (.iload_n 3, 1) := by decide +kernel
theorem dX4_tellOthers_34 : decode cX4_tellOthers 34 = .ok (.aaload, 1) := by decide +kernel
theorem dX4_tellOthers_35 : decode cX4_tellOthers 35 = .ok (.aload_n 1, 1) := by decide +kernel
theorem dX4_tellOthers_36 : decode cX4_tellOthers 36 = .ok (.invokevirtual 253, 3) := by decide +kernel
theorem dX4_tellOthers_39 : decode cX4_tellOthers 39 = .ok (.iinc 3 1, 3) := by decide +kernel
theorem dX4_tellOthers_42 : decode cX4_tellOthers 42 = .ok (.goto (-40), 3) := by decide +kernel
theorem dX4_tellOthers_45 : decode cX4_tellOthers 45 = .ok (.return_, 1) := by decide +kernel
theorem dX4_post_0 : decode cX4_post 0 = .ok (.aload_n 0, 1) := by decide +kernel
theorem dX4_post_1 : decode cX4_post 1 = .ok (.getfield 32, 3) := by decide +kernel
theorem dX4_post_4 : decode cX4_post 4 = .ok (.new 155, 3) := by decide +kernel
theorem dX4_post_7 : decode cX4_post 7 = .ok (.dup, 1) := by decide +kernel
theorem dX4_post_8 : decode cX4_post 8 = .ok (.iload_n 1, 1) := by decide +kernel
theorem dX4_post_9 : decode cX4_post 9 = .ok (.aload_n 2, 1) := by decide +kernel
theorem dX4_post_10 : decode cX4_post 10 = .ok (.aload_n 3, 1) := by decide +kernel
theorem dX4_post_11 : decode cX4_post 11 = .ok (.aload 4, 2) := by decide +kernel
theorem dX4_post_13 : decode cX4_post 13 = .ok (.invokespecial 257, 3) := by decide +kernel
theorem dX4_post_16 : decode cX4_post 16 = .ok (.invokevirtual 55, 3) := by decide +kernel
theorem dX4_post_19 : decode cX4_post 19 = .ok (.pop, 1) := by decide +kernel
theorem dX4_post_20 : decode cX4_post 20 = .ok (.return_, 1) := by decide +kernel
theorem dX4_makeCommitted_0 : decode cX4_makeCommitted 0 = .ok (.aload_n 1, 1) := by decide +kernel
theorem dX4_makeCommitted_1 : decode cX4_makeCommitted 1 = .ok (.iconst 2, 1) := by decide +kernel
theorem dX4_makeCommitted_2 : decode cX4_makeCommitted 2 = .ok (.putfield 113, 3) := by decide +kernel
theorem dX4_makeCommitted_5 : decode cX4_makeCommitted 5 = .ok (.aload_n 1, 1) := by decide +kernel
theorem dX4_makeCommitted_6 : decode cX4_makeCommitted 6 = .ok (.invokevirtual 259, 3) := by decide +kernel
theorem dX4_makeCommitted_9 : decode cX4_makeCommitted 9 = .ok (.ifCond .ne 4, 3) := by decide +kernel
theorem dX4_makeCommitted_12 : decode cX4_makeCommitted 12 = .ok (.return_, 1) := by decide +kernel
theorem dX4_makeCommitted_13 : decode cX4_makeCommitted 13 = .ok (.aload_n 1, 1) := by decide +kernel
theorem dX4_makeCommitted_14 : decode cX4_makeCommitted 14 = .ok (.aload_n 1, 1) := by decide +kernel
theorem dX4_makeCommitted_15 : decode cX4_makeCommitted 15 = .ok (.getfield 83, 3) := by decide +kernel
theorem dX4_makeCommitted_18 : decode cX4_makeCommitted 18 = .ok (.getfield 204, 3) := by decide +kernel
theorem dX4_makeCommitted_21 : decode cX4_makeCommitted 21 = .ok (.aload_n 1, 1) := by decide +kernel
theorem dX4_makeCommitted_22 : decode cX4_makeCommitted 22 = .ok (.getfield 83, 3) := by decide +kernel
theorem dX4_makeCommitted_25 : decode cX4_makeCommitted 25 = .ok (.getfield 176, 3) := by decide +kernel
theorem dX4_makeCommitted_28 : decode cX4_makeCommitted 28 = .ok (.iaload, 1) := by decide +kernel
theorem dX4_makeCommitted_29 : decode cX4_makeCommitted 29 = .ok (.iconst 1, 1) := by decide +kernel
theorem dX4_makeCommitted_30 : decode cX4_makeCommitted 30 = .ok (.iadd, 1) := by decide +kernel
theorem dX4_makeCommitted_31 : decode cX4_makeCommitted 31 = .ok (.putfield 189, 3) := by decide +kernel
theorem dX4_makeCommitted_34 : decode cX4_makeCommitted 34 = .ok (.aload_n 1, 1) := by decide +kernel
theorem dX4_makeCommitted_35 : decode cX4_makeCommitted 35 = .ok (.getfield 83, 3) := by decide +kernel
theorem dX4_makeCommitted_38 : decode cX4_makeCommitted 38 = .ok (.aload_n 1, 1) := by decide +kernel
theorem dX4_makeCommitted_39 : decode cX4_makeCommitted 39 = .ok (.invokevirtual 262, 3) := by decide +kernel
theorem dX4_makeCommitted_42 : decode cX4_makeCommitted 42 = .ok (.aload_n 0, 1) := by decide +kernel
theorem dX4_makeCommitted_43 : decode cX4_makeCommitted 43 = .ok (.aload_n 1, 1) := by decide +kernel
theorem dX4_makeCommitted_44 : decode cX4_makeCommitted 44 = .ok (.iconst 4, 1) := by decide +kernel
theorem dX4_makeCommitted_45 : decode cX4_makeCommitted 45 = .ok (.invokevirtual 265, 3) := by decide +kernel
theorem dX4_makeCommitted_48 : decode cX4_makeCommitted 48 = .ok (.return_, 1) := by decide +kernel
theorem dX4_firstThatCanCome_0 : decode cX4_firstThatCanCome 0 = .ok (.iconst 0, 1) := by decide +kernel
theorem dX4_firstThatCanCome_1 : decode cX4_firstThatCanCome 1 = .ok (.istore_n 1, 1) := by decide +kernel
theorem dX4_firstThatCanCome_2 : decode cX4_firstThatCanCome 2 = .ok (.iload_n 1, 1) := by decide +kernel
theorem dX4_firstThatCanCome_3 : decode cX4_firstThatCanCome 3 = .ok (.aload_n 0, 1) := by decide +kernel
theorem dX4_firstThatCanCome_4 : decode cX4_firstThatCanCome 4 = .ok (.getfield 32, 3) := by decide +kernel
theorem dX4_firstThatCanCome_7 : decode cX4_firstThatCanCome 7 = .ok (.invokevirtual 46, 3) := by decide +kernel
theorem dX4_firstThatCanCome_10 : decode cX4_firstThatCanCome 10 = .ok (.if_icmp .ge 28, 3) := by decide +kernel
theorem dX4_firstThatCanCome_13 : decode cX4_firstThatCanCome 13 = .ok (.aload_n 0, 1) := by decide +kernel
theorem dX4_firstThatCanCome_14 : decode cX4_firstThatCanCome 14 = .ok (.getfield 32, 3) := by decide +kernel
theorem dX4_firstThatCanCome_17 : decode cX4_firstThatCanCome 17 = .ok (.iload_n 1, 1) := by decide +kernel
theorem dX4_firstThatCanCome_18 : decode cX4_firstThatCanCome 18 = .ok (.invokevirtual 232, 3) := by decide +kernel
theorem dX4_firstThatCanCome_21 : decode cX4_firstThatCanCome 21 = .ok (.checkcast 155, 3) := by decide +kernel
theorem dX4_firstThatCanCome_24 : decode cX4_firstThatCanCome 24 = .ok (.invokevirtual 154, 3) := by decide +kernel
theorem dX4_firstThatCanCome_27 : decode cX4_firstThatCanCome 27 = .ok (.ifCond .eq 5, 3) := by decide +kernel
theorem dX4_firstThatCanCome_30 : decode cX4_firstThatCanCome 30 = .ok (.iload_n 1, 1) := by decide +kernel
theorem dX4_firstThatCanCome_31 : decode cX4_firstThatCanCome 31 = .ok (.ireturn, 1) := by decide +kernel
theorem dX4_firstThatCanCome_32 : decode cX4_firstThatCanCome 32 = .ok (.iinc 1 1, 3) := by decide +kernel
theorem dX4_firstThatCanCome_35 : decode cX4_firstThatCanCome 35 = .ok (.goto (-33), 3) := by decide +kernel
theorem dX4_firstThatCanCome_38 : decode cX4_firstThatCanCome 38 = .ok (.bipush (-4), 2) := by decide +kernel
theorem dX4_firstThatCanCome_40 : decode cX4_firstThatCanCome 40 = .ok (.ireturn, 1) := by decide +kernel
theorem dX4_receive_0 : decode cX4_receive 0 = .ok (.aload_n 1, 1) := by decide +kernel
theorem dX4_receive_1 : decode cX4_receive 1 = .ok (.getfield 167, 3) := by decide +kernel
theorem dX4_receive_4 : decode cX4_receive 4 = .ok (.tableswitch 82 0 4 #[36, 44, 55, 66, 74], 36) := by decide +kernel
theorem dX4_receive_40 : decode cX4_receive 40 = .ok (.aload_n 0, 1) := by decide +kernel
theorem dX4_receive_41 : decode cX4_receive 41 = .ok (.aload_n 1, 1) := by decide +kernel
theorem dX4_receive_42 : decode cX4_receive 42 = .ok (.invokevirtual 269, 3) := by decide +kernel
theorem dX4_receive_45 : decode cX4_receive 45 = .ok (.goto 54, 3) := by decide +kernel
theorem dX4_receive_48 : decode cX4_receive 48 = .ok (.aload_n 0, 1) := by decide +kernel
theorem dX4_receive_49 : decode cX4_receive 49 = .ok (.aload_n 1, 1) := by decide +kernel
theorem dX4_receive_50 : decode cX4_receive 50 = .ok (.getfield 180, 3) := by decide +kernel
theorem dX4_receive_53 : decode cX4_receive 53 = .ok (.invokevirtual 272, 3) := by decide +kernel
theorem dX4_receive_56 : decode cX4_receive 56 = .ok (.goto 43, 3) := by decide +kernel
theorem dX4_receive_59 : decode cX4_receive 59 = .ok (.aload_n 0, 1) := by decide +kernel
theorem dX4_receive_60 : decode cX4_receive 60 = .ok (.aload_n 1, 1) := by decide +kernel
theorem dX4_receive_61 : decode cX4_receive 61 = .ok (.getfield 180, 3) := by decide +kernel
theorem dX4_receive_64 : decode cX4_receive 64 = .ok (.invokevirtual 275, 3) := by decide +kernel
theorem dX4_receive_67 : decode cX4_receive 67 = .ok (.goto 32, 3) := by decide +kernel
theorem dX4_receive_70 : decode cX4_receive 70 = .ok (.aload_n 0, 1) := by decide +kernel
theorem dX4_receive_71 : decode cX4_receive 71 = .ok (.aload_n 1, 1) := by decide +kernel
theorem dX4_receive_72 : decode cX4_receive 72 = .ok (.invokevirtual 278, 3) := by decide +kernel
theorem dX4_receive_75 : decode cX4_receive 75 = .ok (.goto 24, 3) := by decide +kernel
theorem dX4_receive_78 : decode cX4_receive 78 = .ok (.aload_n 0, 1) := by decide +kernel
theorem dX4_receive_79 : decode cX4_receive 79 = .ok (.aload_n 1, 1) := by decide +kernel
theorem dX4_receive_80 : decode cX4_receive 80 = .ok (.invokevirtual 281, 3) := by decide +kernel
theorem dX4_receive_83 : decode cX4_receive 83 = .ok (.goto 16, 3) := by decide +kernel
theorem dX4_receive_86 : decode cX4_receive 86 = .ok (.aload_n 1, 1) := by decide +kernel
theorem dX4_receive_87 : decode cX4_receive 87 = .ok (.getfield 180, 3) := by decide +kernel
theorem dX4_receive_90 : decode cX4_receive 90 = .ok (.dup, 1) := by decide +kernel
theorem dX4_receive_91 : decode cX4_receive 91 = .ok (.getfield 192, 3) := by decide +kernel
theorem dX4_receive_94 : decode cX4_receive 94 = .ok (.iconst 1, 1) := by decide +kernel
theorem dX4_receive_95 : decode cX4_receive 95 = .ok (.iadd, 1) := by decide +kernel
theorem dX4_receive_96 : decode cX4_receive 96 = .ok (.putfield 192, 3) := by decide +kernel
theorem dX4_receive_99 : decode cX4_receive 99 = .ok (.return_, 1) := by decide +kernel
theorem dX4_receiveAsk_0 : decode cX4_receiveAsk 0 = .ok (.aload_n 1, 1) := by decide +kernel
theorem dX4_receiveAsk_1 : decode cX4_receiveAsk 1 = .ok (.getfield 180, 3) := by decide +kernel
theorem dX4_receiveAsk_4 : decode cX4_receiveAsk 4 = .ok (.getfield 284, 3) := by decide +kernel
theorem dX4_receiveAsk_7 : decode cX4_receiveAsk 7 = .ok (.aload_n 1, 1) := by decide +kernel
theorem dX4_receiveAsk_8 : decode cX4_receiveAsk 8 = .ok (.getfield 173, 3) := by decide +kernel
theorem dX4_receiveAsk_11 : decode cX4_receiveAsk 11 = .ok (.getfield 176, 3) := by decide +kernel
theorem dX4_receiveAsk_14 : decode cX4_receiveAsk 14 = .ok (.baload, 1) := by decide +kernel
theorem dX4_receiveAsk_15 : decode cX4_receiveAsk 15 = .ok (.ifCond .eq 4, 3) := by decide +kernel
theorem dX4_receiveAsk_18 : decode cX4_receiveAsk 18 = .ok (.return_, 1) := by decide +kernel
theorem dX4_receiveAsk_19 : decode cX4_receiveAsk 19 = .ok (.aload_n 0, 1) := by decide +kernel
theorem dX4_receiveAsk_20 : decode cX4_receiveAsk 20 = .ok (.aload_n 1, 1) := by decide +kernel
theorem dX4_receiveAsk_21 : decode cX4_receiveAsk 21 = .ok (.getfield 180, 3) := by decide +kernel
theorem dX4_receiveAsk_24 : decode cX4_receiveAsk 24 = .ok (.aload_n 1, 1) := by decide +kernel
theorem dX4_receiveAsk_25 : decode cX4_receiveAsk 25 = .ok (.getfield 173, 3) := by decide +kernel
theorem dX4_receiveAsk_28 : decode cX4_receiveAsk 28 = .ok (.invokevirtual 127, 3) := by decide +kernel
theorem dX4_receiveAsk_31 : decode cX4_receiveAsk 31 = .ok (.istore_n 2, 1) := by decide +kernel
theorem dX4_receiveAsk_32 : decode cX4_receiveAsk 32 = .ok (.iload_n 2, 1) := by decide +kernel
theorem dX4_receiveAsk_33 : decode cX4_receiveAsk 33 = .ok (.ifCond .eq 15, 3) := by decide +kernel
theorem dX4_receiveAsk_36 : decode cX4_receiveAsk 36 = .ok (.aload_n 0, 1) := by decide +kernel
theorem dX4_receiveAsk_37 : decode cX4_receiveAsk 37 = .ok (.aload_n 1, 1) := by decide +kernel
theorem dX4_receiveAsk_38 : decode cX4_receiveAsk 38 = .ok (.getfield 180, 3) := by decide +kernel
theorem dX4_receiveAsk_41 : decode cX4_receiveAsk 41 = .ok (.aload_n 1, 1) := by decide +kernel
theorem dX4_receiveAsk_42 : decode cX4_receiveAsk 42 = .ok (.getfield 173, 3) := by decide +kernel
theorem dX4_receiveAsk_45 : decode cX4_receiveAsk 45 = .ok (.invokevirtual 135, 3) := by decide +kernel
theorem dX4_receiveAsk_48 : decode cX4_receiveAsk 48 = .ok (.aload_n 0, 1) := by decide +kernel
theorem dX4_receiveAsk_49 : decode cX4_receiveAsk 49 = .ok (.iload_n 2, 1) := by decide +kernel
theorem dX4_receiveAsk_50 : decode cX4_receiveAsk 50 = .ok (.ifCond .eq 7, 3) := by decide +kernel
theorem dX4_receiveAsk_53 : decode cX4_receiveAsk 53 = .ok (.iconst 1, 1) := by decide +kernel
theorem dX4_receiveAsk_54 : decode cX4_receiveAsk 54 = .ok (.goto 4, 3) := by decide +kernel
theorem dX4_receiveAsk_57 : decode cX4_receiveAsk 57 = .ok (.iconst 2, 1) := by decide +kernel
theorem dX4_receiveAsk_58 : decode cX4_receiveAsk 58 = .ok (.aload_n 1, 1) := by decide +kernel
theorem dX4_receiveAsk_59 : decode cX4_receiveAsk 59 = .ok (.getfield 173, 3) := by decide +kernel
theorem dX4_receiveAsk_62 : decode cX4_receiveAsk 62 = .ok (.aload_n 1, 1) := by decide +kernel
theorem dX4_receiveAsk_63 : decode cX4_receiveAsk 63 = .ok (.getfield 177, 3) := by decide +kernel
theorem dX4_receiveAsk_66 : decode cX4_receiveAsk 66 = .ok (.aload_n 1, 1) := by decide +kernel
theorem dX4_receiveAsk_67 : decode cX4_receiveAsk 67 = .ok (.getfield 180, 3) := by decide +kernel
theorem dX4_receiveAsk_70 : decode cX4_receiveAsk 70 = .ok (.invokevirtual 253, 3) := by decide +kernel
theorem dX4_receiveAsk_73 : decode cX4_receiveAsk 73 = .ok (.return_, 1) := by decide +kernel
theorem dX4_receiveYes_0 : decode cX4_receiveYes 0 = .ok (.aload_n 1, 1) := by decide +kernel
theorem dX4_receiveYes_1 : decode cX4_receiveYes 1 = .ok (.dup, 1) := by decide +kernel
theorem dX4_receiveYes_2 : decode cX4_receiveYes 2 = .ok (.getfield 201, 3) := by decide +kernel
theorem dX4_receiveYes_5 : decode cX4_receiveYes 5 = .ok (.iconst 1, 1) := by decide +kernel
theorem dX4_receiveYes_6 : decode cX4_receiveYes 6 = .ok (.iadd, 1) := by decide +kernel
theorem dX4_receiveYes_7 : decode cX4_receiveYes 7 = .ok (.putfield 201, 3) := by decide +kernel
theorem dX4_receiveYes_10 : decode cX4_receiveYes 10 = .ok (.aload_n 1, 1) := by decide +kernel
theorem dX4_receiveYes_11 : decode cX4_receiveYes 11 = .ok (.getfield 113, 3) := by decide +kernel
theorem dX4_receiveYes_14 : decode cX4_receiveYes 14 = .ok (.iconst 1, 1) := by decide +kernel
theorem dX4_receiveYes_15 : decode cX4_receiveYes 15 = .ok (.if_icmp .ne 19, 3) := by decide +kernel
theorem dX4_receiveYes_18 : decode cX4_receiveYes 18 = .ok (.aload_n 1, 1) := by decide +kernel
theorem dX4_receiveYes_19 : decode cX4_receiveYes 19 = .ok (.getfield 201, 3) := by decide +kernel
theorem dX4_receiveYes_22 : decode cX4_receiveYes 22 = .ok (.aload_n 1, 1) := by decide +kernel
theorem dX4_receiveYes_23 : decode cX4_receiveYes 23 = .ok (.getfield 143, 3) := by decide +kernel
theorem dX4_receiveYes_26 : decode cX4_receiveYes 26 = .ok (.if_icmp .ne 8, 3) := by decide +kernel
theorem dX4_receiveYes_29 : decode cX4_receiveYes 29 = .ok (.aload_n 0, 1) := by decide +kernel
theorem dX4_receiveYes_30 : decode cX4_receiveYes 30 = .ok (.aload_n 1, 1) := by decide +kernel
theorem dX4_receiveYes_31 : decode cX4_receiveYes 31 = .ok (.invokevirtual 146, 3) := by decide +kernel
theorem dX4_receiveYes_34 : decode cX4_receiveYes 34 = .ok (.return_, 1) := by decide +kernel
theorem dX4_receiveNo_0 : decode cX4_receiveNo 0 = .ok (.aload_n 1, 1) := by decide +kernel
theorem dX4_receiveNo_1 : decode cX4_receiveNo 1 = .ok (.getfield 113, 3) := by decide +kernel
theorem dX4_receiveNo_4 : decode cX4_receiveNo 4 = .ok (.iconst 1, 1) := by decide +kernel
theorem dX4_receiveNo_5 : decode cX4_receiveNo 5 = .ok (.if_icmp .eq 4, 3) := by decide +kernel
theorem dX4_receiveNo_8 : decode cX4_receiveNo 8 = .ok (.return_, 1) := by decide +kernel
theorem dX4_receiveNo_9 : decode cX4_receiveNo 9 = .ok (.aload_n 1, 1) := by decide +kernel
theorem dX4_receiveNo_10 : decode cX4_receiveNo 10 = .ok (.iconst 3, 1) := by decide +kernel
theorem dX4_receiveNo_11 : decode cX4_receiveNo 11 = .ok (.putfield 113, 3) := by decide +kernel
theorem dX4_receiveNo_14 : decode cX4_receiveNo 14 = .ok (.aload_n 1, 1) := by decide +kernel
theorem dX4_receiveNo_15 : decode cX4_receiveNo 15 = .ok (.getfield 83, 3) := by decide +kernel
theorem dX4_receiveNo_18 : decode cX4_receiveNo 18 = .ok (.aload_n 1, 1) := by decide +kernel
theorem dX4_receiveNo_19 : decode cX4_receiveNo 19 = .ok (.invokevirtual 287, 3) := by decide +kernel
theorem dX4_receiveNo_22 : decode cX4_receiveNo 22 = .ok (.aload_n 0, 1) := by decide +kernel
theorem dX4_receiveNo_23 : decode cX4_receiveNo 23 = .ok (.aload_n 1, 1) := by decide +kernel
theorem dX4_receiveNo_24 : decode cX4_receiveNo 24 = .ok (.iconst 3, 1) := by decide +kernel
theorem dX4_receiveNo_25 : decode cX4_receiveNo 25 = .ok (.invokevirtual 139, 3) := by decide +kernel
theorem dX4_receiveNo_28 : decode cX4_receiveNo 28 = .ok (.pop, 1) := by decide +kernel
theorem dX4_receiveNo_29 : decode cX4_receiveNo 29 = .ok (.return_, 1) := by decide +kernel
theorem dX4_receiveDrop_0 : decode cX4_receiveDrop 0 = .ok (.aload_n 1, 1) := by decide +kernel
theorem dX4_receiveDrop_1 : decode cX4_receiveDrop 1 = .ok (.getfield 180, 3) := by decide +kernel
theorem dX4_receiveDrop_4 : decode cX4_receiveDrop 4 = .ok (.getfield 284, 3) := by decide +kernel
theorem dX4_receiveDrop_7 : decode cX4_receiveDrop 7 = .ok (.aload_n 1, 1) := by decide +kernel
theorem dX4_receiveDrop_8 : decode cX4_receiveDrop 8 = .ok (.getfield 173, 3) := by decide +kernel
theorem dX4_receiveDrop_11 : decode cX4_receiveDrop 11 = .ok (.getfield 176, 3) := by decide +kernel
theorem dX4_receiveDrop_14 : decode cX4_receiveDrop 14 = .ok (.iconst 1, 1) := by decide +kernel
theorem dX4_receiveDrop_15 : decode cX4_receiveDrop 15 = .ok (.bastore, 1) := by decide +kernel
theorem dX4_receiveDrop_16 : decode cX4_receiveDrop 16 = .ok (.aload_n 1, 1) := by decide +kernel
theorem dX4_receiveDrop_17 : decode cX4_receiveDrop 17 = .ok (.getfield 173, 3) := by decide +kernel
theorem dX4_receiveDrop_20 : decode cX4_receiveDrop 20 = .ok (.aload_n 1, 1) := by decide +kernel
theorem dX4_receiveDrop_21 : decode cX4_receiveDrop 21 = .ok (.getfield 180, 3) := by decide +kernel
theorem dX4_receiveDrop_24 : decode cX4_receiveDrop 24 = .ok (.invokevirtual 287, 3) := by decide +kernel
theorem dX4_receiveDrop_27 : decode cX4_receiveDrop 27 = .ok (.return_, 1) := by decide +kernel
theorem dX4_receiveSend_0 : decode cX4_receiveSend 0 = .ok (.aload_n 1, 1) := by decide +kernel
theorem dX4_receiveSend_1 : decode cX4_receiveSend 1 = .ok (.getfield 173, 3) := by decide +kernel
theorem dX4_receiveSend_4 : decode cX4_receiveSend 4 = .ok (.aload_n 1, 1) := by decide +kernel
theorem dX4_receiveSend_5 : decode cX4_receiveSend 5 = .ok (.getfield 180, 3) := by decide +kernel
theorem dX4_receiveSend_8 : decode cX4_receiveSend 8 = .ok (.invokevirtual 262, 3) := by decide +kernel
theorem dX4_receiveSend_11 : decode cX4_receiveSend 11 = .ok (.aload_n 0, 1) := by decide +kernel
theorem dX4_receiveSend_12 : decode cX4_receiveSend 12 = .ok (.iconst 5, 1) := by decide +kernel
theorem dX4_receiveSend_13 : decode cX4_receiveSend 13 = .ok (.aload_n 1, 1) := by decide +kernel
theorem dX4_receiveSend_14 : decode cX4_receiveSend 14 = .ok (.getfield 173, 3) := by decide +kernel
theorem dX4_receiveSend_17 : decode cX4_receiveSend 17 = .ok (.aload_n 1, 1) := by decide +kernel
theorem dX4_receiveSend_18 : decode cX4_receiveSend 18 = .ok (.getfield 177, 3) := by decide +kernel
theorem dX4_receiveSend_21 : decode cX4_receiveSend 21 = .ok (.aload_n 1, 1) := by decide +kernel
theorem dX4_receiveSend_22 : decode cX4_receiveSend 22 = .ok (.getfield 180, 3) := by decide +kernel
theorem dX4_receiveSend_25 : decode cX4_receiveSend 25 = .ok (.invokevirtual 253, 3) := by decide +kernel
theorem dX4_receiveSend_28 : decode cX4_receiveSend 28 = .ok (.return_, 1) := by decide +kernel
theorem dX4_isSafe_0 : decode cX4_isSafe 0 = .ok (.aload_n 1, 1) := by decide +kernel
theorem dX4_isSafe_1 : decode cX4_isSafe 1 = .ok (.invokevirtual 213, 3) := by decide +kernel
theorem dX4_isSafe_4 : decode cX4_isSafe 4 = .ok (.ifCond .eq 18, 3) := by decide +kernel
theorem dX4_isSafe_7 : decode cX4_isSafe 7 = .ok (.aload_n 1, 1) := by decide +kernel
theorem dX4_isSafe_8 : decode cX4_isSafe 8 = .ok (.getfield 192, 3) := by decide +kernel
theorem dX4_isSafe_11 : decode cX4_isSafe 11 = .ok (.aload_n 0, 1) := by decide +kernel
theorem dX4_isSafe_12 : decode cX4_isSafe 12 = .ok (.getfield 19, 3) := by decide +kernel
theorem dX4_isSafe_15 : decode cX4_isSafe 15 = .ok (.if_icmp .lt 7, 3) := by decide +kernel
theorem dX4_isSafe_18 : decode cX4_isSafe 18 = .ok (.iconst 1, 1) := by decide +kernel
theorem dX4_isSafe_19 : decode cX4_isSafe 19 = .ok (.goto 4, 3) := by decide +kernel
theorem dX4_isSafe_22 : decode cX4_isSafe 22 = .ok (.iconst 0, 1) := by decide +kernel
theorem dX4_isSafe_23 : decode cX4_isSafe 23 = .ok (.ireturn, 1) := by decide +kernel
theorem dX4_isEverywhere_0 : decode cX4_isEverywhere 0 = .ok (.aload_n 1, 1) := by decide +kernel
theorem dX4_isEverywhere_1 : decode cX4_isEverywhere 1 = .ok (.invokevirtual 213, 3) := by decide +kernel
theorem dX4_isEverywhere_4 : decode cX4_isEverywhere 4 = .ok (.ifCond .eq 20, 3) := by decide +kernel
theorem dX4_isEverywhere_7 : decode cX4_isEverywhere 7 = .ok (.aload_n 1, 1) := by decide +kernel
theorem dX4_isEverywhere_8 : decode cX4_isEverywhere 8 = .ok (.getfield 192, 3) := by decide +kernel
theorem dX4_isEverywhere_11 : decode cX4_isEverywhere 11 = .ok (.aload_n 0, 1) := by decide +kernel
theorem dX4_isEverywhere_12 : decode cX4_isEverywhere 12 = .ok (.getfield 15, 3) := by decide +kernel
theorem dX4_isEverywhere_15 : decode cX4_isEverywhere 15 = .ok (.iconst 1, 1) := by decide +kernel
theorem dX4_isEverywhere_16 : decode cX4_isEverywhere 16 = .ok (.isub, 1) := by decide +kernel
theorem dX4_isEverywhere_17 : decode cX4_isEverywhere 17 = .ok (.if_icmp .lt 7, 3) := by decide +kernel
theorem dX4_isEverywhere_20 : decode cX4_isEverywhere 20 = .ok (.iconst 1, 1) := by decide +kernel
theorem dX4_isEverywhere_21 : decode cX4_isEverywhere 21 = .ok (.goto 4, 3) := by decide +kernel
theorem dX4_isEverywhere_24 : decode cX4_isEverywhere 24 = .ok (.iconst 0, 1) := by decide +kernel
theorem dX4_isEverywhere_25 : decode cX4_isEverywhere 25 = .ok (.ireturn, 1) := by decide +kernel
theorem dX4_howManyAre_0 : decode cX4_howManyAre 0 = .ok (.iconst 0, 1) := by decide +kernel
theorem dX4_howManyAre_1 : decode cX4_howManyAre 1 = .ok (.istore_n 2, 1) := by decide +kernel
theorem dX4_howManyAre_2 : decode cX4_howManyAre 2 = .ok (.iconst 0, 1) := by decide +kernel
theorem dX4_howManyAre_3 : decode cX4_howManyAre 3 = .ok (.istore_n 3, 1) := by decide +kernel
theorem dX4_howManyAre_4 : decode cX4_howManyAre 4 = .ok (.iload_n 3, 1) := by decide +kernel
theorem dX4_howManyAre_5 : decode cX4_howManyAre 5 = .ok (.aload_n 0, 1) := by decide +kernel
theorem dX4_howManyAre_6 : decode cX4_howManyAre 6 = .ok (.getfield 29, 3) := by decide +kernel
theorem dX4_howManyAre_9 : decode cX4_howManyAre 9 = .ok (.invokevirtual 46, 3) := by decide +kernel
theorem dX4_howManyAre_12 : decode cX4_howManyAre 12 = .ok (.if_icmp .ge 38, 3) := by decide +kernel
theorem dX4_howManyAre_15 : decode cX4_howManyAre 15 = .ok (.iload_n 2, 1) := by decide +kernel
theorem dX4_howManyAre_16 : decode cX4_howManyAre 16 = .ok (.aload_n 0, 1) := by decide +kernel
theorem dX4_howManyAre_17 : decode cX4_howManyAre 17 = .ok (.getfield 29, 3) := by decide +kernel
theorem dX4_howManyAre_20 : decode cX4_howManyAre 20 = .ok (.iload_n 3, 1) := by decide +kernel
theorem dX4_howManyAre_21 : decode cX4_howManyAre 21 = .ok (.invokevirtual 232, 3) := by decide +kernel
theorem dX4_howManyAre_24 : decode cX4_howManyAre 24 = .ok (.checkcast 59, 3) := by decide +kernel
theorem dX4_howManyAre_27 : decode cX4_howManyAre 27 = .ok (.getfield 113, 3) := by decide +kernel
theorem dX4_howManyAre_30 : decode cX4_howManyAre 30 = .ok (.iload_n 1, 1) := by decide +kernel
theorem dX4_howManyAre_31 : decode cX4_howManyAre 31 = .ok (.if_icmp .ne 7, 3) := by decide +kernel
theorem dX4_howManyAre_34 : decode cX4_howManyAre 34 = .ok (.iconst 1, 1) := by decide +kernel
theorem dX4_howManyAre_35 : decode cX4_howManyAre 35 = .ok (.goto 4, 3) := by decide +kernel
theorem dX4_howManyAre_38 : decode cX4_howManyAre 38 = .ok (.iconst 0, 1) := by decide +kernel
theorem dX4_howManyAre_39 : decode cX4_howManyAre 39 = .ok (.invokestatic 185, 3) := by decide +kernel
theorem dX4_howManyAre_42 : decode cX4_howManyAre 42 = .ok (.iadd, 1) := by decide +kernel
theorem dX4_howManyAre_43 : decode cX4_howManyAre 43 = .ok (.istore_n 2, 1) := by decide +kernel
theorem dX4_howManyAre_44 : decode cX4_howManyAre 44 = .ok (.iinc 3 1, 3) := by decide +kernel
theorem dX4_howManyAre_47 : decode cX4_howManyAre 47 = .ok (.goto (-43), 3) := by decide +kernel
theorem dX4_howManyAre_50 : decode cX4_howManyAre 50 = .ok (.iload_n 2, 1) := by decide +kernel
theorem dX4_howManyAre_51 : decode cX4_howManyAre 51 = .ok (.ireturn, 1) := by decide +kernel
theorem dX4_howManyCommits_0 : decode cX4_howManyCommits 0 = .ok (.iconst 0, 1) := by decide +kernel
theorem dX4_howManyCommits_1 : decode cX4_howManyCommits 1 = .ok (.istore_n 1, 1) := by decide +kernel
theorem dX4_howManyCommits_2 : decode cX4_howManyCommits 2 = .ok (.iconst 0, 1) := by decide +kernel
theorem dX4_howManyCommits_3 : decode cX4_howManyCommits 3 = .ok (.istore_n 2, 1) := by decide +kernel
theorem dX4_howManyCommits_4 : decode cX4_howManyCommits 4 = .ok (.iload_n 2, 1) := by decide +kernel
theorem dX4_howManyCommits_5 : decode cX4_howManyCommits 5 = .ok (.aload_n 0, 1) := by decide +kernel
theorem dX4_howManyCommits_6 : decode cX4_howManyCommits 6 = .ok (.getfield 15, 3) := by decide +kernel
theorem dX4_howManyCommits_9 : decode cX4_howManyCommits 9 = .ok (.if_icmp .ge 23, 3) := by decide +kernel
theorem dX4_howManyCommits_12 : decode cX4_howManyCommits 12 = .ok (.iload_n 1, 1) := by decide +kernel
theorem dX4_howManyCommits_13 : decode cX4_howManyCommits 13 = .ok (.aload_n 0, 1) := by decide +kernel
theorem dX4_howManyCommits_14 : decode cX4_howManyCommits 14 = .ok (.getfield 11, 3) := by decide +kernel
theorem dX4_howManyCommits_17 : decode cX4_howManyCommits 17 = .ok (.iload_n 2, 1) := by decide +kernel
theorem dX4_howManyCommits_18 : decode cX4_howManyCommits 18 = .ok (.aaload, 1) := by decide +kernel
theorem dX4_howManyCommits_19 : decode cX4_howManyCommits 19 = .ok (.getfield 204, 3) := by decide +kernel
theorem dX4_howManyCommits_22 : decode cX4_howManyCommits 22 = .ok (.iload_n 2, 1) := by decide +kernel
theorem dX4_howManyCommits_23 : decode cX4_howManyCommits 23 = .ok (.iaload, 1) := by decide +kernel
theorem dX4_howManyCommits_24 : decode cX4_howManyCommits 24 = .ok (.iadd, 1) := by decide +kernel
theorem dX4_howManyCommits_25 : decode cX4_howManyCommits 25 = .ok (.istore_n 1, 1) := by decide +kernel
theorem dX4_howManyCommits_26 : decode cX4_howManyCommits 26 = .ok (.iinc 2 1, 3) := by decide +kernel
theorem dX4_howManyCommits_29 : decode cX4_howManyCommits 29 = .ok (.goto (-25), 3) := by decide +kernel
theorem dX4_howManyCommits_32 : decode cX4_howManyCommits 32 = .ok (.iload_n 1, 1) := by decide +kernel
theorem dX4_howManyCommits_33 : decode cX4_howManyCommits 33 = .ok (.ireturn, 1) := by decide +kernel
theorem dX4_howManyLocks_0 : decode cX4_howManyLocks 0 = .ok (.iconst 0, 1) := by decide +kernel
theorem dX4_howManyLocks_1 : decode cX4_howManyLocks 1 = .ok (.istore_n 1, 1) := by decide +kernel
theorem dX4_howManyLocks_2 : decode cX4_howManyLocks 2 = .ok (.iconst 0, 1) := by decide +kernel
theorem dX4_howManyLocks_3 : decode cX4_howManyLocks 3 = .ok (.istore_n 2, 1) := by decide +kernel
theorem dX4_howManyLocks_4 : decode cX4_howManyLocks 4 = .ok (.iload_n 2, 1) := by decide +kernel
theorem dX4_howManyLocks_5 : decode cX4_howManyLocks 5 = .ok (.aload_n 0, 1) := by decide +kernel
theorem dX4_howManyLocks_6 : decode cX4_howManyLocks 6 = .ok (.getfield 15, 3) := by decide +kernel
theorem dX4_howManyLocks_9 : decode cX4_howManyLocks 9 = .ok (.if_icmp .ge 21, 3) := by decide +kernel
theorem dX4_howManyLocks_12 : decode cX4_howManyLocks 12 = .ok (.iload_n 1, 1) := by decide +kernel
theorem dX4_howManyLocks_13 : decode cX4_howManyLocks 13 = .ok (.aload_n 0, 1) := by decide +kernel
theorem dX4_howManyLocks_14 : decode cX4_howManyLocks 14 = .ok (.getfield 11, 3) := by decide +kernel
theorem dX4_howManyLocks_17 : decode cX4_howManyLocks 17 = .ok (.iload_n 2, 1) := by decide +kernel
theorem dX4_howManyLocks_18 : decode cX4_howManyLocks 18 = .ok (.aaload, 1) := by decide +kernel
theorem dX4_howManyLocks_19 : decode cX4_howManyLocks 19 = .ok (.invokevirtual 290, 3) := by decide +kernel
theorem dX4_howManyLocks_22 : decode cX4_howManyLocks 22 = .ok (.iadd, 1) := by decide +kernel
theorem dX4_howManyLocks_23 : decode cX4_howManyLocks 23 = .ok (.istore_n 1, 1) := by decide +kernel
theorem dX4_howManyLocks_24 : decode cX4_howManyLocks 24 = .ok (.iinc 2 1, 3) := by decide +kernel
theorem dX4_howManyLocks_27 : decode cX4_howManyLocks 27 = .ok (.goto (-23), 3) := by decide +kernel
theorem dX4_howManyLocks_30 : decode cX4_howManyLocks 30 = .ok (.iload_n 1, 1) := by decide +kernel
theorem dX4_howManyLocks_31 : decode cX4_howManyLocks 31 = .ok (.ireturn, 1) := by decide +kernel
theorem dX4_howManySafe_0 : decode cX4_howManySafe 0 = .ok (.iconst 0, 1) := by decide +kernel
theorem dX4_howManySafe_1 : decode cX4_howManySafe 1 = .ok (.istore_n 1, 1) := by decide +kernel
theorem dX4_howManySafe_2 : decode cX4_howManySafe 2 = .ok (.iconst 0, 1) := by decide +kernel
theorem dX4_howManySafe_3 : decode cX4_howManySafe 3 = .ok (.istore_n 2, 1) := by decide +kernel
theorem dX4_howManySafe_4 : decode cX4_howManySafe 4 = .ok (.iload_n 2, 1) := by decide +kernel
theorem dX4_howManySafe_5 : decode cX4_howManySafe 5 = .ok (.aload_n 0, 1) := by decide +kernel
theorem dX4_howManySafe_6 : decode cX4_howManySafe 6 = .ok (.getfield 29, 3) := by decide +kernel
theorem dX4_howManySafe_9 : decode cX4_howManySafe 9 = .ok (.invokevirtual 46, 3) := by decide +kernel
theorem dX4_howManySafe_12 : decode cX4_howManySafe 12 = .ok (.if_icmp .ge 30, 3) := by decide +kernel
theorem dX4_howManySafe_15 : decode cX4_howManySafe 15 = .ok (.iload_n 1, 1) := by decide +kernel
theorem dX4_howManySafe_16 : decode cX4_howManySafe 16 = .ok (.aload_n 0, 1) := by decide +kernel
theorem dX4_howManySafe_17 : decode cX4_howManySafe 17 = .ok (.aload_n 0, 1) := by decide +kernel
theorem dX4_howManySafe_18 : decode cX4_howManySafe 18 = .ok (.getfield 29, 3) := by decide +kernel
theorem dX4_howManySafe_21 : decode cX4_howManySafe 21 = .ok (.iload_n 2, 1) := by decide +kernel
theorem dX4_howManySafe_22 : decode cX4_howManySafe 22 = .ok (.invokevirtual 232, 3) := by decide +kernel
theorem dX4_howManySafe_25 : decode cX4_howManySafe 25 = .ok (.checkcast 59, 3) := by decide +kernel
theorem dX4_howManySafe_28 : decode cX4_howManySafe 28 = .ok (.invokevirtual 195, 3) := by decide +kernel
theorem dX4_howManySafe_31 : decode cX4_howManySafe 31 = .ok (.invokestatic 185, 3) := by decide +kernel
theorem dX4_howManySafe_34 : decode cX4_howManySafe 34 = .ok (.iadd, 1) := by decide +kernel
theorem dX4_howManySafe_35 : decode cX4_howManySafe 35 = .ok (.istore_n 1, 1) := by decide +kernel
theorem dX4_howManySafe_36 : decode cX4_howManySafe 36 = .ok (.iinc 2 1, 3) := by decide +kernel
theorem dX4_howManySafe_39 : decode cX4_howManySafe 39 = .ok (.goto (-35), 3) := by decide +kernel
theorem dX4_howManySafe_42 : decode cX4_howManySafe 42 = .ok (.iload_n 1, 1) := by decide +kernel
theorem dX4_howManySafe_43 : decode cX4_howManySafe 43 = .ok (.ireturn, 1) := by decide +kernel

theorem dX5_init_0 : decode cX5_init 0 = .ok (.aload_n 0, 1) := by decide +kernel
theorem dX5_init_1 : decode cX5_init 1 = .ok (.invokespecial 1, 3) := by decide +kernel
theorem dX5_init_4 : decode cX5_init 4 = .ok (.aload_n 0, 1) := by decide +kernel
theorem dX5_init_5 : decode cX5_init 5 = .ok (.iconst 3, 1) := by decide +kernel
theorem dX5_init_6 : decode cX5_init 6 = .ok (.putfield 7, 3) := by decide +kernel
theorem dX5_init_9 : decode cX5_init 9 = .ok (.aload_n 0, 1) := by decide +kernel
theorem dX5_init_10 : decode cX5_init 10 = .ok (.iconst 1, 1) := by decide +kernel
theorem dX5_init_11 : decode cX5_init 11 = .ok (.putfield 13, 3) := by decide +kernel
theorem dX5_init_14 : decode cX5_init 14 = .ok (.aload_n 0, 1) := by decide +kernel
theorem dX5_init_15 : decode cX5_init 15 = .ok (.bipush 12, 2) := by decide +kernel
theorem dX5_init_17 : decode cX5_init 17 = .ok (.newarray .int, 2) := by decide +kernel
theorem dX5_init_19 : decode cX5_init 19 = .ok (.putfield 16, 3) := by decide +kernel
theorem dX5_init_22 : decode cX5_init 22 = .ok (.aload_n 0, 1) := by decide +kernel
theorem dX5_init_23 : decode cX5_init 23 = .ok (.bipush 12, 2) := by decide +kernel
theorem dX5_init_25 : decode cX5_init 25 = .ok (.newarray .boolean, 2) := by decide +kernel
theorem dX5_init_27 : decode cX5_init 27 = .ok (.putfield 20, 3) := by decide +kernel
theorem dX5_init_30 : decode cX5_init 30 = .ok (.aload_n 0, 1) := by decide +kernel
theorem dX5_init_31 : decode cX5_init 31 = .ok (.sipush 150, 3) := by decide +kernel
theorem dX5_init_34 : decode cX5_init 34 = .ok (.newarray .int, 2) := by decide +kernel
theorem dX5_init_36 : decode cX5_init 36 = .ok (.putfield 24, 3) := by decide +kernel
theorem dX5_init_39 : decode cX5_init 39 = .ok (.aload_n 0, 1) := by decide +kernel
theorem dX5_init_40 : decode cX5_init 40 = .ok (.sipush 150, 3) := by decide +kernel
theorem dX5_init_43 : decode cX5_init 43 = .ok (.newarray .int, 2) := by decide +kernel
theorem dX5_init_45 : decode cX5_init 45 = .ok (.putfield 27, 3) := by decide +kernel
theorem dX5_init_48 : decode cX5_init 48 = .ok (.aload_n 0, 1) := by decide +kernel
theorem dX5_init_49 : decode cX5_init 49 = .ok (.sipush 600, 3) := by decide +kernel
theorem dX5_init_52 : decode cX5_init 52 = .ok (.newarray .int, 2) := by decide +kernel
theorem dX5_init_54 : decode cX5_init 54 = .ok (.putfield 30, 3) := by decide +kernel
theorem dX5_init_57 : decode cX5_init 57 = .ok (.aload_n 0, 1) := by decide +kernel
theorem dX5_init_58 : decode cX5_init 58 = .ok (.sipush 150, 3) := by decide +kernel
theorem dX5_init_61 : decode cX5_init 61 = .ok (.newarray .int, 2) := by decide +kernel
theorem dX5_init_63 : decode cX5_init 63 = .ok (.putfield 33, 3) := by decide +kernel
theorem dX5_init_66 : decode cX5_init 66 = .ok (.aload_n 0, 1) := by decide +kernel
theorem dX5_init_67 : decode cX5_init 67 = .ok (.sipush 150, 3) := by decide +kernel
theorem dX5_init_70 : decode cX5_init 70 = .ok (.newarray .int, 2) := by decide +kernel
theorem dX5_init_72 : decode cX5_init 72 = .ok (.putfield 36, 3) := by decide +kernel
theorem dX5_init_75 : decode cX5_init 75 = .ok (.aload_n 0, 1) := by decide +kernel
theorem dX5_init_76 : decode cX5_init 76 = .ok (.sipush 150, 3) := by decide +kernel
theorem dX5_init_79 : decode cX5_init 79 = .ok (.newarray .int, 2) := by decide +kernel
theorem dX5_init_81 : decode cX5_init 81 = .ok (.putfield 39, 3) := by decide +kernel
theorem dX5_init_84 : decode cX5_init 84 = .ok (.aload_n 0, 1) := by decide +kernel
theorem dX5_init_85 : decode cX5_init 85 = .ok (.sipush 150, 3) := by decide +kernel
theorem dX5_init_88 : decode cX5_init 88 = .ok (.newarray .int, 2) := by decide +kernel
theorem dX5_init_90 : decode cX5_init 90 = .ok (.putfield 42, 3) := by decide +kernel
theorem dX5_init_93 : decode cX5_init 93 = .ok (.aload_n 0, 1) := by decide +kernel
theorem dX5_init_94 : decode cX5_init 94 = .ok (.sipush 600, 3) := by decide +kernel
theorem dX5_init_97 : decode cX5_init 97 = .ok (.newarray .boolean, 2) := by decide +kernel
theorem dX5_init_99 : decode cX5_init 99 = .ok (.putfield 45, 3) := by decide +kernel
theorem dX5_init_102 : decode cX5_init 102 = .ok (.aload_n 0, 1) := by decide +kernel
theorem dX5_init_103 : decode cX5_init 103 = .ok (.sipush 1800, 3) := by decide +kernel
theorem dX5_init_106 : decode cX5_init 106 = .ok (.newarray .boolean, 2) := by decide +kernel
theorem dX5_init_108 : decode cX5_init 108 = .ok (.putfield 48, 3) := by decide +kernel
theorem dX5_init_111 : decode cX5_init 111 = .ok (.aload_n 0, 1) := by decide +kernel
theorem dX5_init_112 : decode cX5_init 112 = .ok (.sipush 1800, 3) := by decide +kernel
theorem dX5_init_115 : decode cX5_init 115 = .ok (.newarray .long, 2) := by decide +kernel
theorem dX5_init_117 : decode cX5_init 117 = .ok (.putfield 51, 3) := by decide +kernel
theorem dX5_init_120 : decode cX5_init 120 = .ok (.aload_n 0, 1) := by decide +kernel
theorem dX5_init_121 : decode cX5_init 121 = .ok (.sipush 1800, 3) := by decide +kernel
theorem dX5_init_124 : decode cX5_init 124 = .ok (.newarray .boolean, 2) := by decide +kernel
theorem dX5_init_126 : decode cX5_init 126 = .ok (.putfield 55, 3) := by decide +kernel
theorem dX5_init_129 : decode cX5_init 129 = .ok (.aload_n 0, 1) := by decide +kernel
theorem dX5_init_130 : decode cX5_init 130 = .ok (.sipush 14400, 3) := by decide +kernel
theorem dX5_init_133 : decode cX5_init 133 = .ok (.newarray .long, 2) := by decide +kernel
theorem dX5_init_135 : decode cX5_init 135 = .ok (.putfield 58, 3) := by decide +kernel
theorem dX5_init_138 : decode cX5_init 138 = .ok (.aload_n 0, 1) := by decide +kernel
theorem dX5_init_139 : decode cX5_init 139 = .ok (.bipush 16, 2) := by decide +kernel
theorem dX5_init_141 : decode cX5_init 141 = .ok (.newarray .int, 2) := by decide +kernel
theorem dX5_init_143 : decode cX5_init 143 = .ok (.putfield 61, 3) := by decide +kernel
theorem dX5_init_146 : decode cX5_init 146 = .ok (.aload_n 0, 1) := by decide +kernel
theorem dX5_init_147 : decode cX5_init 147 = .ok (.sipush 600, 3) := by decide +kernel
theorem dX5_init_150 : decode cX5_init 150 = .ok (.newarray .int, 2) := by decide +kernel
theorem dX5_init_152 : decode cX5_init 152 = .ok (.putfield 64, 3) := by decide +kernel
theorem dX5_init_155 : decode cX5_init 155 = .ok (.aload_n 0, 1) := by decide +kernel
theorem dX5_init_156 : decode cX5_init 156 = .ok (.iconst 4, 1) := by decide +kernel
theorem dX5_init_157 : decode cX5_init 157 = .ok (.newarray .int, 2) := by decide +kernel
theorem dX5_init_159 : decode cX5_init 159 = .ok (.putfield 67, 3) := by decide +kernel
theorem dX5_init_162 : decode cX5_init 162 = .ok (.aload_n 0, 1) := by decide +kernel
theorem dX5_init_163 : decode cX5_init 163 = .ok (.bipush 48, 2) := by decide +kernel
theorem dX5_init_165 : decode cX5_init 165 = .ok (.newarray .int, 2) := by decide +kernel
theorem dX5_init_167 : decode cX5_init 167 = .ok (.putfield 70, 3) := by decide +kernel
theorem dX5_init_170 : decode cX5_init 170 = .ok (.aload_n 0, 1) := by decide +kernel
theorem dX5_init_171 : decode cX5_init 171 = .ok (.sipush 2400, 3) := by decide +kernel
theorem dX5_init_174 : decode cX5_init 174 = .ok (.newarray .int, 2) := by decide +kernel
theorem dX5_init_176 : decode cX5_init 176 = .ok (.putfield 73, 3) := by decide +kernel
theorem dX5_init_179 : decode cX5_init 179 = .ok (.aload_n 0, 1) := by decide +kernel
theorem dX5_init_180 : decode cX5_init 180 = .ok (.sipush 2400, 3) := by decide +kernel
theorem dX5_init_183 : decode cX5_init 183 = .ok (.newarray .int, 2) := by decide +kernel
theorem dX5_init_185 : decode cX5_init 185 = .ok (.putfield 76, 3) := by decide +kernel
theorem dX5_init_188 : decode cX5_init 188 = .ok (.aload_n 0, 1) := by decide +kernel
theorem dX5_init_189 : decode cX5_init 189 = .ok (.sipush 2400, 3) := by decide +kernel
theorem dX5_init_192 : decode cX5_init 192 = .ok (.newarray .int, 2) := by decide +kernel
theorem dX5_init_194 : decode cX5_init 194 = .ok (.putfield 79, 3) := by decide +kernel
theorem dX5_init_197 : decode cX5_init 197 = .ok (.aload_n 0, 1) := by decide +kernel
theorem dX5_init_198 : decode cX5_init 198 = .ok (.sipush 2400, 3) := by decide +kernel
theorem dX5_init_201 : decode cX5_init 201 = .ok (.newarray .int, 2) := by decide +kernel
theorem dX5_init_203 : decode cX5_init 203 = .ok (.putfield 82, 3) := by decide +kernel
theorem dX5_init_206 : decode cX5_init 206 = .ok (.iconst 0, 1) := by decide +kernel
theorem dX5_init_207 : decode cX5_init 207 = .ok (.istore_n 1, 1) := by decide +kernel
theorem dX5_init_208 : decode cX5_init 208 = .ok (.iload_n 1, 1) := by decide +kernel
theorem dX5_init_209 : decode cX5_init 209 = .ok (.bipush 48, 2) := by decide +kernel
theorem dX5_init_211 : decode cX5_init 211 = .ok (.if_icmp .ge 17, 3) := by decide +kernel
theorem dX5_init_214 : decode cX5_init 214 = .ok (.aload_n 0, 1) := by decide +kernel
theorem dX5_init_215 : decode cX5_init 215 = .ok (.getfield 70, 3) := by decide +kernel
theorem dX5_init_218 : decode cX5_init 218 = .ok (.iload_n 1, 1) := by decide +kernel
theorem dX5_init_219 : decode cX5_init 219 = .ok (.bipush (-4), 2) := by decide +kernel
theorem dX5_init_221 : decode cX5_init 221 = .ok (.iastore, 1) := by decide +kernel
theorem dX5_init_222 : decode cX5_init 222 = .ok (.iinc 1 1, 3) := by decide +kernel
theorem dX5_init_225 : decode cX5_init 225 = .ok (.goto (-17), 3) := by decide +kernel
theorem dX5_init_228 : decode cX5_init 228 = .ok (.return_, 1) := by decide +kernel
theorem dX5_in_0 : decode cX5_in 0 = .ok (.lload_n 0, 1) := by decide +kernel
theorem dX5_in_1 : decode cX5_in 1 = .ok (.lload_n 2, 1) := by decide +kernel
theorem dX5_in_2 : decode cX5_in 2 = .ok (.lcmp, 1) := by decide +kernel
theorem dX5_in_3 : decode cX5_in 3 = .ok (.ifCond .lt 14, 3) := by decide +kernel
theorem dX5_in_6 : decode cX5_in 6 = .ok (.lload_n 0, 1) := by decide +kernel
theorem dX5_in_7 : decode cX5_in 7 = .ok (.lload 4, 2) := by decide +kernel
theorem dX5_in_9 : decode cX5_in 9 = .ok (.lcmp, 1) := by decide +kernel
theorem dX5_in_10 : decode cX5_in 10 = .ok (.ifCond .gt 7, 3) := by decide +kernel
theorem dX5_in_13 : decode cX5_in 13 = .ok (.iconst 1, 1) := by decide +kernel
theorem dX5_in_14 : decode cX5_in 14 = .ok (.goto 4, 3) := by decide +kernel
theorem dX5_in_17 : decode cX5_in 17 = .ok (.iconst 0, 1) := by decide +kernel
theorem dX5_in_18 : decode cX5_in 18 = .ok (.ireturn, 1) := by decide +kernel
theorem dX5_isSite_0 : decode cX5_isSite 0 = .ok (.iload_n 1, 1) := by decide +kernel
theorem dX5_isSite_1 : decode cX5_isSite 1 = .ok (.i2l, 1) := by decide +kernel
theorem dX5_isSite_2 : decode cX5_isSite 2 = .ok (.lconst 0, 1) := by decide +kernel
theorem dX5_isSite_3 : decode cX5_isSite 3 = .ok (.aload_n 0, 1) := by decide +kernel
theorem dX5_isSite_4 : decode cX5_isSite 4 = .ok (.getfield 7, 3) := by decide +kernel
theorem dX5_isSite_7 : decode cX5_isSite 7 = .ok (.iconst 1, 1) := by decide +kernel
theorem dX5_isSite_8 : decode cX5_isSite 8 = .ok (.isub, 1) := by decide +kernel
theorem dX5_isSite_9 : decode cX5_isSite 9 = .ok (.i2l, 1) := by decide +kernel
theorem dX5_isSite_10 : decode cX5_isSite 10 = .ok (.invokestatic 85, 3) := by decide +kernel
theorem dX5_isSite_13 : decode cX5_isSite 13 = .ok (.ireturn, 1) := by decide +kernel
theorem dX5_isThing_0 : decode cX5_isThing 0 = .ok (.iload_n 1, 1) := by decide +kernel
theorem dX5_isThing_1 : decode cX5_isThing 1 = .ok (.i2l, 1) := by decide +kernel
theorem dX5_isThing_2 : decode cX5_isThing 2 = .ok (.lconst 0, 1) := by decide +kernel
theorem dX5_isThing_3 : decode cX5_isThing 3 = .ok (.aload_n 0, 1) := by decide +kernel
theorem dX5_isThing_4 : decode cX5_isThing 4 = .ok (.getfield 89, 3) := by decide +kernel
theorem dX5_isThing_7 : decode cX5_isThing 7 = .ok (.iconst 1, 1) := by decide +kernel
theorem dX5_isThing_8 : decode cX5_isThing 8 = .ok (.isub, 1) := by decide +kernel
theorem dX5_isThing_9 : decode cX5_isThing 9 = .ok (.i2l, 1) := by decide +kernel
theorem dX5_isThing_10 : decode cX5_isThing 10 = .ok (.invokestatic 85, 3) := by decide +kernel
theorem dX5_isThing_13 : decode cX5_isThing 13 = .ok (.ireturn, 1) := by decide +kernel
theorem dX5_is_0 : decode cX5_is 0 = .ok (.iload_n 1, 1) := by decide +kernel
theorem dX5_is_1 : decode cX5_is 1 = .ok (.i2l, 1) := by decide +kernel
theorem dX5_is_2 : decode cX5_is 2 = .ok (.lconst 0, 1) := by decide +kernel
theorem dX5_is_3 : decode cX5_is 3 = .ok (.aload_n 0, 1) := by decide +kernel
theorem dX5_is_4 : decode cX5_is 4 = .ok (.getfield 92, 3) := by decide +kernel
theorem dX5_is_7 : decode cX5_is 7 = .ok (.iconst 1, 1) := by decide +kernel
theorem dX5_is_8 : decode cX5_is 8 = .ok (.isub, 1) := by decide +kernel
theorem dX5_is_9 : decode cX5_is 9 = .ok (.i2l, 1) := by decide +kernel
theorem dX5_is_10 : decode cX5_is 10 = .ok (.invokestatic 85, 3) := by decide +kernel
theorem dX5_is_13 : decode cX5_is 13 = .ok (.ireturn, 1) := by decide +kernel
theorem dX5_sites_0 : decode cX5_sites 0 = .ok (.iload_n 1, 1) := by decide +kernel
theorem dX5_sites_1 : decode cX5_sites 1 = .ok (.i2l, 1) := by decide +kernel
theorem dX5_sites_2 : decode cX5_sites 2 = .ok (.ldc2_w 95, 3) := by decide +kernel
theorem dX5_sites_5 : decode cX5_sites 5 = .ok (.ldc2_w 97, 3) := by decide +kernel
theorem dX5_sites_8 : decode cX5_sites 8 = .ok (.invokestatic 85, 3) := by decide +kernel
theorem dX5_sites_11 : decode cX5_sites 11 = .ok (.ifCond .eq 16, 3) := by decide +kernel
theorem dX5_sites_14 : decode cX5_sites 14 = .ok (.iload_n 2, 1) := by decide +kernel
theorem dX5_sites_15 : decode cX5_sites 15 = .ok (.i2l, 1) := by decide +kernel
theorem dX5_sites_16 : decode cX5_sites 16 = .ok (.lconst 0, 1) := by decide +kernel
theorem dX5_sites_17 : decode cX5_sites 17 = .ok (.iload_n 1, 1) := by decide +kernel
theorem dX5_sites_18 : decode cX5_sites 18 = .ok (.iconst 1, 1) := by decide +kernel
theorem dX5_sites_19 : decode cX5_sites 19 = .ok (.isub, 1) := by decide +kernel
theorem dX5_sites_20 : decode cX5_sites 20 = .ok (.i2l, 1) := by decide +kernel
theorem dX5_sites_21 : decode cX5_sites 21 = .ok (.invokestatic 85, 3) := by decide +kernel
theorem dX5_sites_24 : decode cX5_sites 24 = .ok (.ifCond .ne 5, 3) := by decide +kernel
theorem dX5_sites_27 : decode cX5_sites 27 = .ok (.iconst (-1), 1) := by decide +kernel
theorem dX5_sites_28 : decode cX5_sites 28 = .ok (.ireturn, 1) := by decide +kernel
theorem dX5_sites_29 : decode cX5_sites 29 = .ok (.aload_n 0, 1) := by decide +kernel
theorem dX5_sites_30 : decode cX5_sites 30 = .ok (.getfield 89, 3) := by decide +kernel
theorem dX5_sites_33 : decode cX5_sites 33 = .ok (.ifCond .gt 10, 3) := by decide +kernel
theorem dX5_sites_36 : decode cX5_sites 36 = .ok (.aload_n 0, 1) := by decide +kernel
theorem dX5_sites_37 : decode cX5_sites 37 = .ok (.getfield 92, 3) := by decide +kernel
theorem dX5_sites_40 : decode cX5_sites 40 = .ok (.ifCond .le 6, 3) := by decide +kernel
theorem dX5_sites_43 : decode cX5_sites 43 = .ok (.bipush (-2), 2) := by decide +kernel
theorem dX5_sites_45 : decode cX5_sites 45 = .ok (.ireturn, 1) := by decide +kernel
theorem dX5_sites_46 : decode cX5_sites 46 = .ok (.aload_n 0, 1) := by decide +kernel
theorem dX5_sites_47 : decode cX5_sites 47 = .ok (.iload_n 1, 1) := by decide +kernel
theorem dX5_sites_48 : decode cX5_sites 48 = .ok (.putfield 7, 3) := by decide +kernel
theorem dX5_sites_51 : decode cX5_sites 51 = .ok (.aload_n 0, 1) := by decide +kernel
theorem dX5_sites_52 : decode cX5_sites 52 = .ok (.iload_n 2, 1) := by decide +kernel
theorem dX5_sites_53 : decode cX5_sites 53 = .ok (.putfield 13, 3) := by decide +kernel
theorem dX5_sites_56 : decode cX5_sites 56 = .ok (.iconst 1, 1) := by decide +kernel
theorem dX5_sites_57 : decode cX5_sites 57 = .ok (.ireturn, 1) := by decide +kernel
theorem dX5_thing_0 : decode cX5_thing 0 = .ok (.aload_n 0, 1) := by decide +kernel
theorem dX5_thing_1 : decode cX5_thing 1 = .ok (.iload_n 1, 1) := by decide +kernel
theorem dX5_thing_2 : decode cX5_thing 2 = .ok (.invokevirtual 99, 3) := by decide +kernel
theorem dX5_thing_5 : decode cX5_thing 5 = .ok (.ifCond .ne 5, 3) := by decide +kernel
theorem dX5_thing_8 : decode cX5_thing 8 = .ok (.iconst (-1), 1) := by decide +kernel
theorem dX5_thing_9 : decode cX5_thing 9 = .ok (.ireturn, 1) := by decide +kernel
theorem dX5_thing_10 : decode cX5_thing 10 = .ok (.aload_n 0, 1) := by decide +kernel
theorem dX5_thing_11 : decode cX5_thing 11 = .ok (.getfield 89, 3) := by decide +kernel
theorem dX5_thing_14 : decode cX5_thing 14 = .ok (.bipush 12, 2) := by decide +kernel
theorem dX5_thing_16 : decode cX5_thing 16 = .ok (.if_icmp .ne 6, 3) := by decide +kernel
theorem dX5_thing_19 : decode cX5_thing 19 = .ok (.bipush (-3), 2) := by decide +kernel
theorem dX5_thing_21 : decode cX5_thing 21 = .ok (.ireturn, 1) := by decide +kernel
theorem dX5_thing_22 : decode cX5_thing 22 = .ok (.aload_n 0, 1) := by decide +kernel
theorem dX5_thing_23 : decode cX5_thing 23 = .ok (.getfield 16, 3) := by decide +kernel
theorem dX5_thing_26 : decode cX5_thing 26 = .ok (.aload_n 0, 1) := by decide +kernel
theorem dX5_thing_27 : decode cX5_thing 27 = .ok (.getfield 89, 3) := by decide +kernel
theorem dX5_thing_30 : decode cX5_thing 30 = .ok (.iload_n 1, 1) := by decide +kernel
theorem dX5_thing_31 : decode cX5_thing 31 = .ok (.iastore, 1) := by decide +kernel
theorem dX5_thing_32 : decode cX5_thing 32 = .ok (.aload_n 0, 1) := by decide +kernel
theorem dX5_thing_33 : decode cX5_thing 33 = .ok (.getfield 20, 3) := by decide +kernel
theorem dX5_thing_36 : decode cX5_thing 36 = .ok (.aload_n 0, 1) := by decide +kernel
theorem dX5_thing_37 : decode cX5_thing 37 = .ok (.getfield 89, 3) := by decide +kernel
theorem dX5_thing_40 : decode cX5_thing 40 = .ok (.iload_n 2, 1) := by decide +kernel
theorem dX5_thing_41 : decode cX5_thing 41 = .ok (.bastore, 1) := by decide +kernel
theorem dX5_thing_42 : decode cX5_thing 42 = .ok (.aload_n 0, 1) := by decide +kernel
theorem dX5_thing_43 : decode cX5_thing 43 = .ok (.dup, 1) := by decide +kernel
theorem dX5_thing_44 : decode cX5_thing 44 = .ok (.getfield 89, 3) := by decide +kernel
theorem dX5_thing_47 : decode cX5_thing 47 = .ok (.iconst 1, 1) := by decide +kernel
theorem dX5_thing_48 : decode cX5_thing 48 = .ok (.iadd, 1) := by decide +kernel
theorem dX5_thing_49 : decode cX5_thing 49 = .ok (.putfield 89, 3) := by decide +kernel
theorem dX5_thing_52 : decode cX5_thing 52 = .ok (.aload_n 0, 1) := by decide +kernel
theorem dX5_thing_53 : decode cX5_thing 53 = .ok (.getfield 89, 3) := by decide +kernel
theorem dX5_thing_56 : decode cX5_thing 56 = .ok (.iconst 1, 1) := by decide +kernel
theorem dX5_thing_57 : decode cX5_thing 57 = .ok (.isub, 1) := by decide +kernel
theorem dX5_thing_58 : decode cX5_thing 58 = .ok (.ireturn, 1) := by decide +kernel
theorem dX5_begin_0 : decode cX5_begin 0 = .ok (.aload_n 0, 1) := by decide +kernel
theorem dX5_begin_1 : decode cX5_begin 1 = .ok (.iload_n 1, 1) := by decide +kernel
theorem dX5_begin_2 : decode cX5_begin 2 = .ok (.invokevirtual 99, 3) := by decide +kernel
theorem dX5_begin_5 : decode cX5_begin 5 = .ok (.ifCond .ne 5, 3) := by decide +kernel
theorem dX5_begin_8 : decode cX5_begin 8 = .ok (.iconst (-1), 1) := by decide +kernel
theorem dX5_begin_9 : decode cX5_begin 9 = .ok (.ireturn, 1) := by decide +kernel
theorem dX5_begin_10 : decode cX5_begin 10 = .ok (.aload_n 0, 1) := by decide +kernel
theorem dX5_begin_11 : decode cX5_begin 11 = .ok (.getfield 92, 3) := by decide +kernel
theorem dX5_begin_14 : decode cX5_begin 14 = .ok (.sipush 150, 3) := by decide +kernel
theorem dX5_begin_17 : decode cX5_begin 17 = .ok (.if_icmp .ne 6, 3) := by decide +kernel
theorem dX5_begin_20 : decode cX5_begin 20 = .ok (.bipush (-3), 2) := by decide +kernel
theorem dX5_begin_22 : decode cX5_begin 22 = .ok (.ireturn, 1) := by decide +kernel
theorem dX5_begin_23 : decode cX5_begin 23 = .ok (.aload_n 0, 1) := by decide +kernel
theorem dX5_begin_24 : decode cX5_begin 24 = .ok (.getfield 24, 3) := by decide +kernel
theorem dX5_begin_27 : decode cX5_begin 27 = .ok (.aload_n 0, 1) := by decide +kernel
theorem dX5_begin_28 : decode cX5_begin 28 = .ok (.getfield 92, 3) := by decide +kernel
theorem dX5_begin_31 : decode cX5_begin 31 = .ok (.iload_n 1, 1) := by decide +kernel
theorem dX5_begin_32 : decode cX5_begin 32 = .ok (.iastore, 1) := by decide +kernel
theorem dX5_begin_33 : decode cX5_begin 33 = .ok (.iconst 0, 1) := by decide +kernel
theorem dX5_begin_34 : decode cX5_begin 34 = .ok (.istore_n 2, 1) := by decide +kernel
theorem dX5_begin_35 : decode cX5_begin 35 = .ok (.iload_n 2, 1) := by decide +kernel
theorem dX5_begin_36 : decode cX5_begin 36 = .ok (.iconst 4, 1) := by decide +kernel
theorem dX5_begin_37 : decode cX5_begin 37 = .ok (.if_icmp .ge 32, 3) := by decide +kernel
theorem dX5_begin_40 : decode cX5_begin 40 = .ok (.aload_n 0, 1) := by decide +kernel
theorem dX5_begin_41 : decode cX5_begin 41 = .ok (.getfield 30, 3) := by decide +kernel
theorem dX5_begin_44 : decode cX5_begin 44 = .ok (.iconst 4, 1) := by decide +kernel
theorem dX5_begin_45 : decode cX5_begin 45 = .ok (.aload_n 0, 1) := by decide +kernel
theorem dX5_begin_46 : decode cX5_begin 46 = .ok (.getfield 92, 3) := by decide +kernel
theorem dX5_begin_49 : decode cX5_begin 49 = .ok (.imul, 1) := by decide +kernel
theorem dX5_begin_50 : decode cX5_begin 50 = .ok (.iload_n 2, 1) := by decide +kernel
theorem dX5_begin_51 : decode cX5_begin 51 = .ok (.iadd, 1) := by decide +kernel
theorem dX5_begin_52 : decode cX5_begin 52 = .ok (.aload_n 0, 1) := by decide +kernel
theorem dX5_begin_53 : decode cX5_begin 53 = .ok (.getfield 61, 3) := by decide +kernel
theorem dX5_begin_56 : decode cX5_begin 56 = .ok (.iconst 4, 1) := by decide +kernel
theorem dX5_begin_57 : decode cX5_begin 57 = .ok (.iload_n 1, 1) := by decide +kernel
theorem dX5_begin_58 : decode cX5_begin 58 = .ok (.imul, 1) := by decide +kernel
theorem dX5_begin_59 : decode cX5_begin 59 = .ok (.iload_n 2, 1) := by decide +kernel
theorem dX5_begin_60 : decode cX5_begin 60 = .ok (.iadd, 1) := by decide +kernel
theorem dX5_begin_61 : decode cX5_begin 61 = .ok (.iaload, 1) := by decide +kernel
theorem dX5_begin_62 : decode cX5_begin 62 = .ok (.iastore, 1) := by decide +kernel
theorem dX5_begin_63 : decode cX5_begin 63 = .ok (.iinc 2 1, 3) := by decide +kernel
theorem dX5_begin_66 : decode cX5_begin 66 = .ok (.goto (-31), 3) := by decide +kernel
theorem dX5_begin_69 : decode cX5_begin 69 = .ok (.aload_n 0, 1) := by decide +kernel
theorem dX5_begin_70 : decode cX5_begin 70 = .ok (.dup, 1) := by decide +kernel
theorem dX5_begin_71 : decode cX5_begin 71 = .ok (.getfield 92, 3) := by decide +kernel
theorem dX5_begin_74 : decode cX5_begin 74 = .ok (.iconst 1, 1) := by decide +kernel
theorem dX5_begin_75 : decode cX5_begin 75 = .ok (.iadd, 1) := by decide +kernel
theorem dX5_begin_76 : decode cX5_begin 76 = .ok (.putfield 92, 3) := by decide +kernel
theorem dX5_begin_79 : decode cX5_begin 79 = .ok (.aload_n 0, 1) := by decide +kernel
theorem dX5_begin_80 : decode cX5_begin 80 = .ok (.getfield 92, 3) := by decide +kernel
theorem dX5_begin_83 : decode cX5_begin 83 = .ok (.iconst 1, 1) := by decide +kernel
theorem dX5_begin_84 : decode cX5_begin 84 = .ok (.isub, 1) := by decide +kernel
theorem dX5_begin_85 : decode cX5_begin 85 = .ok (.ireturn, 1) := by decide +kernel
theorem dX5_has_0 : decode cX5_has 0 = .ok (.aload_n 0, 1) := by decide +kernel
theorem dX5_has_1 : decode cX5_has 1 = .ok (.getfield 33, 3) := by decide +kernel
theorem dX5_has_4 : decode cX5_has 4 = .ok (.iload_n 2, 1) := by decide +kernel
theorem dX5_has_5 : decode cX5_has 5 = .ok (.iaload, 1) := by decide +kernel
theorem dX5_has_6 : decode cX5_has 6 = .ok (.ifCond .le 31, 3) := by decide +kernel
theorem dX5_has_9 : decode cX5_has 9 = .ok (.aload_n 0, 1) := by decide +kernel
theorem dX5_has_10 : decode cX5_has 10 = .ok (.getfield 33, 3) := by decide +kernel
theorem dX5_has_13 : decode cX5_has 13 = .ok (.iload_n 2, 1) := by decide +kernel
theorem dX5_has_14 : decode cX5_has 14 = .ok (.iaload, 1) := by decide +kernel
theorem dX5_has_15 : decode cX5_has 15 = .ok (.aload_n 0, 1) := by decide +kernel
theorem dX5_has_16 : decode cX5_has 16 = .ok (.getfield 30, 3) := by decide +kernel
theorem dX5_has_19 : decode cX5_has 19 = .ok (.iconst 4, 1) := by decide +kernel
theorem dX5_has_20 : decode cX5_has 20 = .ok (.iload_n 1, 1) := by decide +kernel
theorem dX5_has_21 : decode cX5_has 21 = .ok (.imul, 1) := by decide +kernel
theorem dX5_has_22 : decode cX5_has 22 = .ok (.aload_n 0, 1) := by decide +kernel
theorem dX5_has_23 : decode cX5_has 23 = .ok (.getfield 24, 3) := by decide +kernel
theorem dX5_has_26 : decode cX5_has 26 = .ok (.iload_n 2, 1) := by decide +kernel
theorem dX5_has_27 : decode cX5_has 27 = .ok (.iaload, 1) := by decide +kernel
theorem dX5_has_28 : decode cX5_has 28 = .ok (.iadd, 1) := by decide +kernel
theorem dX5_has_29 : decode cX5_has 29 = .ok (.iaload, 1) := by decide +kernel
theorem dX5_has_30 : decode cX5_has 30 = .ok (.if_icmp .gt 7, 3) := by decide +kernel
theorem dX5_has_33 : decode cX5_has 33 = .ok (.iconst 1, 1) := by decide +kernel
theorem dX5_has_34 : decode cX5_has 34 = .ok (.goto 4, 3) := by decide +kernel
theorem dX5_has_37 : decode cX5_has 37 = .ok (.iconst 0, 1) := by decide +kernel
theorem dX5_has_38 : decode cX5_has 38 = .ok (.ireturn, 1) := by decide +kernel
theorem dX5_read_0 : decode cX5_read 0 = .ok (.aload_n 0, 1) := by decide +kernel
theorem dX5_read_1 : decode cX5_read 1 = .ok (.iload_n 1, 1) := by decide +kernel
theorem dX5_read_2 : decode cX5_read 2 = .ok (.invokevirtual 103, 3) := by decide +kernel
theorem dX5_read_5 : decode cX5_read 5 = .ok (.ifCond .eq 20, 3) := by decide +kernel
theorem dX5_read_8 : decode cX5_read 8 = .ok (.aload_n 0, 1) := by decide +kernel
theorem dX5_read_9 : decode cX5_read 9 = .ok (.iload_n 2, 1) := by decide +kernel
theorem dX5_read_10 : decode cX5_read 10 = .ok (.invokevirtual 106, 3) := by decide +kernel
theorem dX5_read_13 : decode cX5_read 13 = .ok (.ifCond .eq 12, 3) := by decide +kernel
theorem dX5_read_16 : decode cX5_read 16 = .ok (.aload_n 0, 1) := by decide +kernel
theorem dX5_read_17 : decode cX5_read 17 = .ok (.getfield 20, 3) := by decide +kernel
theorem dX5_read_20 : decode cX5_read 20 = .ok (.iload_n 2, 1) := by decide +kernel
theorem dX5_read_21 : decode cX5_read 21 = .ok (.baload, 1) := by decide +kernel
theorem dX5_read_22 : decode cX5_read 22 = .ok (.ifCond .eq 5, 3) := by decide +kernel
theorem dX5_read_25 : decode cX5_read 25 = .ok (.lconst 0, 1) := by decide +kernel
theorem dX5_read_26 : decode cX5_read 26 = .ok (.lreturn, 1) := by decide +kernel
theorem dX5_read_27 : decode cX5_read 27 = .ok (.aload_n 0, 1) := by decide +kernel
theorem dX5_read_28 : decode cX5_read 28 = .ok (.getfield 48, 3) := by decide +kernel
theorem dX5_read_31 : decode cX5_read 31 = .ok (.bipush 12, 2) := by decide +kernel
theorem dX5_read_33 : decode cX5_read 33 = .ok (.iload_n 1, 1) := by decide +kernel
theorem dX5_read_34 : decode cX5_read 34 = .ok (.imul, 1) := by decide +kernel
theorem dX5_read_35 : decode cX5_read 35 = .ok (.iload_n 2, 1) := by decide +kernel
theorem dX5_read_36 : decode cX5_read 36 = .ok (.iadd, 1) := by decide +kernel
theorem dX5_read_37 : decode cX5_read 37 = .ok (.baload, 1) := by decide +kernel
theorem dX5_read_38 : decode cX5_read 38 = .ok (.ifCond .eq 15, 3) := by decide +kernel
theorem dX5_read_41 : decode cX5_read 41 = .ok (.aload_n 0, 1) := by decide +kernel
theorem dX5_read_42 : decode cX5_read 42 = .ok (.getfield 51, 3) := by decide +kernel
theorem dX5_read_45 : decode cX5_read 45 = .ok (.bipush 12, 2) := by decide +kernel
theorem dX5_read_47 : decode cX5_read 47 = .ok (.iload_n 1, 1) := by decide +kernel
theorem dX5_read_48 : decode cX5_read 48 = .ok (.imul, 1) := by decide +kernel
theorem dX5_read_49 : decode cX5_read 49 = .ok (.iload_n 2, 1) := by decide +kernel
theorem dX5_read_50 : decode cX5_read 50 = .ok (.iadd, 1) := by decide +kernel
theorem dX5_read_51 : decode cX5_read 51 = .ok (.laload, 1) := by decide +kernel
theorem dX5_read_52 : decode cX5_read 52 = .ok (.lreturn, 1) := by decide +kernel
theorem dX5_read_53 : decode cX5_read 53 = .ok (.aload_n 0, 1) := by decide +kernel
theorem dX5_read_54 : decode cX5_read 54 = .ok (.getfield 24, 3) := by decide +kernel
theorem dX5_read_57 : decode cX5_read 57 = .ok (.iload_n 1, 1) := by decide +kernel
theorem dX5_read_58 : decode cX5_read 58 = .ok (.iaload, 1) := by decide +kernel
theorem dX5_read_59 : decode cX5_read 59 = .ok (.istore_n 3, 1) := by decide +kernel
theorem dX5_read_60 : decode cX5_read 60 = .ok (.aload_n 0, 1) := by decide +kernel
theorem dX5_read_61 : decode cX5_read 61 = .ok (.getfield 67, 3) := by decide +kernel
theorem dX5_read_64 : decode cX5_read 64 = .ok (.iload_n 3, 1) := by decide +kernel
theorem dX5_read_65 : decode cX5_read 65 = .ok (.iaload, 1) := by decide +kernel
theorem dX5_read_66 : decode cX5_read 66 = .ok (.iconst 1, 1) := by decide +kernel
theorem dX5_read_67 : decode cX5_read 67 = .ok (.isub, 1) := by decide +kernel
theorem dX5_read_68 : decode cX5_read 68 = .ok (.istore 4, 2) := by decide +kernel
theorem dX5_read_70 : decode cX5_read 70 = .ok (.iload 4, 2) := by decide +kernel
theorem dX5_read_72 : decode cX5_read 72 = .ok (.ifCond .lt 62, 3) := by decide +kernel
theorem dX5_read_75 : decode cX5_read 75 = .ok (.aload_n 0, 1) := by decide +kernel
theorem dX5_read_76 : decode cX5_read 76 = .ok (.getfield 64, 3) := by decide +kernel
theorem dX5_read_79 : decode cX5_read 79 = .ok (.sipush 150, 3) := by decide +kernel
theorem dX5_read_82 : decode cX5_read 82 = .ok (.iload_n 3, 1) := by decide +kernel
theorem dX5_read_83 : decode cX5_read 83 = .ok (.imul, 1) := by decide +kernel
theorem dX5_read_84 : decode cX5_read 84 = .ok (.iload 4, 2) := by decide +kernel
theorem dX5_read_86 : decode cX5_read 86 = .ok (.iadd, 1) := by decide +kernel
theorem dX5_read_87 : decode cX5_read 87 = .ok (.iaload, 1) := by decide +kernel
theorem dX5_read_88 : decode cX5_read 88 = .ok (.istore 5, 2) := by decide +kernel
theorem dX5_read_90 : decode cX5_read 90 = .ok (.aload_n 0, 1) := by decide +kernel
theorem dX5_read_91 : decode cX5_read 91 = .ok (.getfield 48, 3) := by decide +kernel
theorem dX5_read_94 : decode cX5_read 94 = .ok (.bipush 12, 2) := by decide +kernel
theorem dX5_read_96 : decode cX5_read 96 = .ok (.iload 5, 2) := by decide +kernel
theorem dX5_read_98 : decode cX5_read 98 = .ok (.imul, 1) := by decide +kernel
theorem dX5_read_99 : decode cX5_read 99 = .ok (.iload_n 2, 1) := by decide +kernel
theorem dX5_read_100 : decode cX5_read 100 = .ok (.iadd, 1) := by decide +kernel
theorem dX5_read_101 : decode cX5_read 101 = .ok (.baload, 1) := by decide +kernel
theorem dX5_read_102 : decode cX5_read 102 = .ok (.ifCond .eq 26, 3) := by decide +kernel
theorem dX5_read_105 : decode cX5_read 105 = .ok (.aload_n 0, 1) := by decide +kernel
theorem dX5_read_106 : decode cX5_read 106 = .ok (.iload_n 1, 1) := by decide +kernel
theorem dX5_read_107 : decode cX5_read 107 = .ok (.iload 5, 2) := by decide +kernel
theorem dX5_read_109 : decode cX5_read 109 = .ok (.invokevirtual 109, 3) := by decide +kernel
theorem dX5_read_112 : decode cX5_read 112 = .ok (.ifCond .eq 16, 3) := by decide +kernel
theorem dX5_read_115 : decode cX5_read 115 = .ok (.aload_n 0, 1) := by decide +kernel
theorem dX5_read_116 : decode cX5_read 116 = .ok (.getfield 51, 3) := by decide +kernel
theorem dX5_read_119 : decode cX5_read 119 = .ok (.bipush 12, 2) := by decide +kernel
theorem dX5_read_121 : decode cX5_read 121 = .ok (.iload 5, 2) := by decide +kernel
theorem dX5_read_123 : decode cX5_read 123 = .ok (.imul, 1) := by decide +kernel
theorem dX5_read_124 : decode cX5_read 124 = .ok (.iload_n 2, 1) := by decide +kernel
theorem dX5_read_125 : decode cX5_read 125 = .ok (.iadd, 1) := by decide +kernel
theorem dX5_read_126 : decode cX5_read 126 = .ok (.laload, 1) := by decide +kernel
theorem dX5_read_127 : decode cX5_read 127 = .ok (.lreturn, 1) := by decide +kernel
theorem dX5_read_128 : decode cX5_read 128 = .ok (.iinc 4 (-1), 3) := by decide +kernel
theorem dX5_read_131 : decode cX5_read 131 = .ok (.goto (-61), 3) := by decide +kernel
theorem dX5_read_134 : decode cX5_read 134 = .ok (.lconst 0, 1) := by decide +kernel
theorem dX5_read_135 : decode cX5_read 135 = .ok (.lreturn, 1) := by decide +kernel
theorem dX5_isElement_0 : decode cX5_isElement 0 = .ok (.iload_n 0, 1) := by decide +kernel
theorem dX5_isElement_1 : decode cX5_isElement 1 = .ok (.i2l, 1) := by decide +kernel
theorem dX5_isElement_2 : decode cX5_isElement 2 = .ok (.lconst 0, 1) := by decide +kernel
theorem dX5_isElement_3 : decode cX5_isElement 3 = .ok (.ldc2_w 113, 3) := by decide +kernel
theorem dX5_isElement_6 : decode cX5_isElement 6 = .ok (.invokestatic 85, 3) := by decide +kernel
theorem dX5_isElement_9 : decode cX5_isElement 9 = .ok (.ireturn, 1) := by decide +kernel
theorem dX5_counted_0 : decode cX5_counted 0 = .ok (.aload_n 0, 1) := by decide +kernel
theorem dX5_counted_1 : decode cX5_counted 1 = .ok (.iload_n 1, 1) := by decide +kernel
theorem dX5_counted_2 : decode cX5_counted 2 = .ok (.invokevirtual 103, 3) := by decide +kernel
theorem dX5_counted_5 : decode cX5_counted 5 = .ok (.ifCond .eq 27, 3) := by decide +kernel
theorem dX5_counted_8 : decode cX5_counted 8 = .ok (.aload_n 0, 1) := by decide +kernel
theorem dX5_counted_9 : decode cX5_counted 9 = .ok (.iload_n 2, 1) := by decide +kernel
theorem dX5_counted_10 : decode cX5_counted 10 = .ok (.invokevirtual 106, 3) := by decide +kernel
theorem dX5_counted_13 : decode cX5_counted 13 = .ok (.ifCond .eq 19, 3) := by decide +kernel
theorem dX5_counted_16 : decode cX5_counted 16 = .ok (.aload_n 0, 1) := by decide +kernel
theorem dX5_counted_17 : decode cX5_counted 17 = .ok (.getfield 20, 3) := by decide +kernel
theorem dX5_counted_20 : decode cX5_counted 20 = .ok (.iload_n 2, 1) := by decide +kernel
theorem dX5_counted_21 : decode cX5_counted 21 = .ok (.baload, 1) := by decide +kernel
theorem dX5_counted_22 : decode cX5_counted 22 = .ok (.ifCond .eq 10, 3) := by decide +kernel
theorem dX5_counted_25 : decode cX5_counted 25 = .ok (.iload_n 3, 1) := by decide +kernel
theorem dX5_counted_26 : decode cX5_counted 26 = .ok (.invokestatic 115, 3) := by decide +kernel
theorem dX5_counted_29 : decode cX5_counted 29 = .ok (.ifCond .ne 5, 3) := by decide +kernel
theorem dX5_counted_32 : decode cX5_counted 32 = .ok (.lconst 0, 1) := by decide +kernel
theorem dX5_counted_33 : decode cX5_counted 33 = .ok (.lreturn, 1) := by decide +kernel
theorem dX5_counted_34 : decode cX5_counted 34 = .ok (.aload_n 0, 1) := by decide +kernel
theorem dX5_counted_35 : decode cX5_counted 35 = .ok (.getfield 58, 3) := by decide +kernel
theorem dX5_counted_38 : decode cX5_counted 38 = .ok (.bipush 96, 2) := by decide +kernel
theorem dX5_counted_40 : decode cX5_counted 40 = .ok (.iload_n 1, 1) := by decide +kernel
theorem dX5_counted_41 : decode cX5_counted 41 = .ok (.imul, 1) := by decide +kernel
theorem dX5_counted_42 : decode cX5_counted 42 = .ok (.bipush 8, 2) := by decide +kernel
theorem dX5_counted_44 : decode cX5_counted 44 = .ok (.iload_n 2, 1) := by decide +kernel
theorem dX5_counted_45 : decode cX5_counted 45 = .ok (.imul, 1) := by decide +kernel
theorem dX5_counted_46 : decode cX5_counted 46 = .ok (.iadd, 1) := by decide +kernel
theorem dX5_counted_47 : decode cX5_counted 47 = .ok (.iload_n 3, 1) := by decide +kernel
theorem dX5_counted_48 : decode cX5_counted 48 = .ok (.iadd, 1) := by decide +kernel
theorem dX5_counted_49 : decode cX5_counted 49 = .ok (.laload, 1) := by decide +kernel
theorem dX5_counted_50 : decode cX5_counted 50 = .ok (.lstore 4, 2) := by decide +kernel
theorem dX5_counted_52 : decode cX5_counted 52 = .ok (.aload_n 0, 1) := by decide +kernel
theorem dX5_counted_53 : decode cX5_counted 53 = .ok (.getfield 24, 3) := by decide +kernel
theorem dX5_counted_56 : decode cX5_counted 56 = .ok (.iload_n 1, 1) := by decide +kernel
theorem dX5_counted_57 : decode cX5_counted 57 = .ok (.iaload, 1) := by decide +kernel
theorem dX5_counted_58 : decode cX5_counted 58 = .ok (.istore 6, 2) := by decide +kernel
theorem dX5_counted_60 : decode cX5_counted 60 = .ok (.iconst 0, 1) := by decide +kernel
theorem dX5_counted_61 : decode cX5_counted 61 = .ok (.istore 7, 2) := by decide +kernel
theorem dX5_counted_63 : decode cX5_counted 63 = .ok (.iload 7, 2) := by decide +kernel
theorem dX5_counted_65 : decode cX5_counted 65 = .ok (.aload_n 0, 1) := by decide +kernel
theorem dX5_counted_66 : decode cX5_counted 66 = .ok (.getfield 67, 3) := by decide +kernel
theorem dX5_counted_69 : decode cX5_counted 69 = .ok (.iload 6, 2) := by decide +kernel
theorem dX5_counted_71 : decode cX5_counted 71 = .ok (.iaload, 1) := by decide +kernel
theorem dX5_counted_72 : decode cX5_counted 72 = .ok (.if_icmp .ge 61, 3) := by decide +kernel
theorem dX5_counted_75 : decode cX5_counted 75 = .ok (.aload_n 0, 1) := by decide +kernel
theorem dX5_counted_76 : decode cX5_counted 76 = .ok (.getfield 64, 3) := by decide +kernel
theorem dX5_counted_79 : decode cX5_counted 79 = .ok (.sipush 150, 3) := by decide +kernel
theorem dX5_counted_82 : decode cX5_counted 82 = .ok (.iload 6, 2) := by decide +kernel
theorem dX5_counted_84 : decode cX5_counted 84 = .ok (.imul, 1) := by decide +kernel
theorem dX5_counted_85 : decode cX5_counted 85 = .ok (.iload 7, 2) := by decide +kernel
theorem dX5_counted_87 : decode cX5_counted 87 = .ok (.iadd, 1) := by decide +kernel
theorem dX5_counted_88 : decode cX5_counted 88 = .ok (.iaload, 1) := by decide +kernel
theorem dX5_counted_89 : decode cX5_counted 89 = .ok (.istore 8, 2) := by decide +kernel
theorem dX5_counted_91 : decode cX5_counted 91 = .ok (.lload 4, 2) := by decide +kernel
theorem dX5_counted_93 : decode cX5_counted 93 = .ok (.aload_n 0, 1) := by decide +kernel
theorem dX5_counted_94 : decode cX5_counted 94 = .ok (.iload_n 1, 1) := by decide +kernel
theorem dX5_counted_95 : decode cX5_counted 95 = .ok (.iload 8, 2) := by decide +kernel
theorem dX5_counted_97 : decode cX5_counted 97 = .ok (.invokevirtual 109, 3) := by decide +kernel
theorem dX5_counted_100 : decode cX5_counted 100 = .ok (.ifCond .eq 23, 3) := by decide +kernel
theorem dX5_counted_103 : decode cX5_counted 103 = .ok (.aload_n 0, 1) := by decide +kernel
theorem dX5_counted_104 : decode cX5_counted 104 = .ok (.getfield 58, 3) := by decide +kernel
theorem dX5_counted_107 : decode cX5_counted 107 = .ok (.bipush 96, 2) := by decide +kernel
theorem dX5_counted_109 : decode cX5_counted 109 = .ok (.iload 8, 2) := by decide +kernel
theorem dX5_counted_111 : decode cX5_counted 111 = .ok (.imul, 1) := by decide +kernel
theorem dX5_counted_112 : decode cX5_counted 112 = .ok (.bipush 8, 2) := by decide +kernel
theorem dX5_counted_114 : decode cX5_counted 114 = .ok (.iload_n 2, 1) := by decide +kernel
theorem dX5_counted_115 : decode cX5_counted 115 = .ok (.imul, 1) := by decide +kernel
theorem dX5_counted_116 : decode cX5_counted 116 = .ok (.iadd, 1) := by decide +kernel
theorem dX5_counted_117 : decode cX5_counted 117 = .ok (.iload_n 3, 1) := by decide +kernel
theorem dX5_counted_118 : decode cX5_counted 118 = .ok (.iadd, 1) := by decide +kernel
theorem dX5_counted_119 : decode cX5_counted 119 = .ok (.laload, 1) := by decide +kernel
theorem dX5_counted_120 : decode cX5_counted 120 = .ok (.goto 4, 3) := by decide +kernel
theorem dX5_counted_123 : decode cX5_counted 123 = .ok (.lconst 0, 1) := by decide +kernel
theorem dX5_counted_124 : decode cX5_counted 124 = .ok (.ladd, 1) := by decide +kernel
theorem dX5_counted_125 : decode cX5_counted 125 = .ok (.lstore 4, 2) := by decide +kernel
theorem dX5_counted_127 : decode cX5_counted 127 = .ok (.iinc 7 1, 3) := by decide +kernel
theorem dX5_counted_130 : decode cX5_counted 130 = .ok (.goto (-67), 3) := by decide +kernel
theorem dX5_counted_133 : decode cX5_counted 133 = .ok (.lload 4, 2) := by decide +kernel
theorem dX5_counted_135 : decode cX5_counted 135 = .ok (.lreturn, 1) := by decide +kernel
theorem dX5_latest_0 : decode cX5_latest 0 = .ok (.aload_n 0, 1) := by decide +kernel
theorem dX5_latest_1 : decode cX5_latest 1 = .ok (.iload_n 1, 1) := by decide +kernel
theorem dX5_latest_2 : decode cX5_latest 2 = .ok (.invokevirtual 99, 3) := by decide +kernel
theorem dX5_latest_5 : decode cX5_latest 5 = .ok (.ifCond .eq 20, 3) := by decide +kernel
theorem dX5_latest_8 : decode cX5_latest 8 = .ok (.aload_n 0, 1) := by decide +kernel
theorem dX5_latest_9 : decode cX5_latest 9 = .ok (.iload_n 2, 1) := by decide +kernel
theorem dX5_latest_10 : decode cX5_latest 10 = .ok (.invokevirtual 106, 3) := by decide +kernel
theorem dX5_latest_13 : decode cX5_latest 13 = .ok (.ifCond .eq 12, 3) := by decide +kernel
theorem dX5_latest_16 : decode cX5_latest 16 = .ok (.aload_n 0, 1) := by decide +kernel
theorem dX5_latest_17 : decode cX5_latest 17 = .ok (.getfield 20, 3) := by decide +kernel
theorem dX5_latest_20 : decode cX5_latest 20 = .ok (.iload_n 2, 1) := by decide +kernel
theorem dX5_latest_21 : decode cX5_latest 21 = .ok (.baload, 1) := by decide +kernel
theorem dX5_latest_22 : decode cX5_latest 22 = .ok (.ifCond .eq 5, 3) := by decide +kernel
theorem dX5_latest_25 : decode cX5_latest 25 = .ok (.lconst 0, 1) := by decide +kernel
theorem dX5_latest_26 : decode cX5_latest 26 = .ok (.lreturn, 1) := by decide +kernel
theorem dX5_latest_27 : decode cX5_latest 27 = .ok (.aload_n 0, 1) := by decide +kernel
theorem dX5_latest_28 : decode cX5_latest 28 = .ok (.getfield 67, 3) := by decide +kernel
theorem dX5_latest_31 : decode cX5_latest 31 = .ok (.iload_n 1, 1) := by decide +kernel
theorem dX5_latest_32 : decode cX5_latest 32 = .ok (.iaload, 1) := by decide +kernel
theorem dX5_latest_33 : decode cX5_latest 33 = .ok (.iconst 1, 1) := by decide +kernel
theorem dX5_latest_34 : decode cX5_latest 34 = .ok (.isub, 1) := by decide +kernel
theorem dX5_latest_35 : decode cX5_latest 35 = .ok (.istore_n 3, 1) := by decide +kernel
theorem dX5_latest_36 : decode cX5_latest 36 = .ok (.iload_n 3, 1) := by decide +kernel
theorem dX5_latest_37 : decode cX5_latest 37 = .ok (.ifCond .lt 51, 3) := by decide +kernel
theorem dX5_latest_40 : decode cX5_latest 40 = .ok (.aload_n 0, 1) := by decide +kernel
theorem dX5_latest_41 : decode cX5_latest 41 = .ok (.getfield 64, 3) := by decide +kernel
theorem dX5_latest_44 : decode cX5_latest 44 = .ok (.sipush 150, 3) := by decide +kernel
theorem dX5_latest_47 : decode cX5_latest 47 = .ok (.iload_n 1, 1) := by decide +kernel
theorem dX5_latest_48 : decode cX5_latest 48 = .ok (.imul, 1) := by decide +kernel
theorem dX5_latest_49 : decode cX5_latest 49 = .ok (.iload_n 3, 1) := by decide +kernel
theorem dX5_latest_50 : decode cX5_latest 50 = .ok (.iadd, 1) := by decide +kernel
theorem dX5_latest_51 : decode cX5_latest 51 = .ok (.iaload, 1) := by decide +kernel
theorem dX5_latest_52 : decode cX5_latest 52 = .ok (.istore 4, 2) := by decide +kernel
theorem dX5_latest_54 : decode cX5_latest 54 = .ok (.aload_n 0, 1) := by decide +kernel
theorem dX5_latest_55 : decode cX5_latest 55 = .ok (.getfield 48, 3) := by decide +kernel
theorem dX5_latest_58 : decode cX5_latest 58 = .ok (.bipush 12, 2) := by decide +kernel
theorem dX5_latest_60 : decode cX5_latest 60 = .ok (.iload 4, 2) := by decide +kernel
theorem dX5_latest_62 : decode cX5_latest 62 = .ok (.imul, 1) := by decide +kernel
theorem dX5_latest_63 : decode cX5_latest 63 = .ok (.iload_n 2, 1) := by decide +kernel
theorem dX5_latest_64 : decode cX5_latest 64 = .ok (.iadd, 1) := by decide +kernel
theorem dX5_latest_65 : decode cX5_latest 65 = .ok (.baload, 1) := by decide +kernel
theorem dX5_latest_66 : decode cX5_latest 66 = .ok (.ifCond .eq 16, 3) := by decide +kernel
theorem dX5_latest_69 : decode cX5_latest 69 = .ok (.aload_n 0, 1) := by decide +kernel
theorem dX5_latest_70 : decode cX5_latest 70 = .ok (.getfield 51, 3) := by decide +kernel
theorem dX5_latest_73 : decode cX5_latest 73 = .ok (.bipush 12, 2) := by decide +kernel
theorem dX5_latest_75 : decode cX5_latest 75 = .ok (.iload 4, 2) := by decide +kernel
theorem dX5_latest_77 : decode cX5_latest 77 = .ok (.imul, 1) := by decide +kernel
theorem dX5_latest_78 : decode cX5_latest 78 = .ok (.iload_n 2, 1) := by decide +kernel
theorem dX5_latest_79 : decode cX5_latest 79 = .ok (.iadd, 1) := by decide +kernel
theorem dX5_latest_80 : decode cX5_latest 80 = .ok (.laload, 1) := by decide +kernel
theorem dX5_latest_81 : decode cX5_latest 81 = .ok (.lreturn, 1) := by decide +kernel
theorem dX5_latest_82 : decode cX5_latest 82 = .ok (.iinc 3 (-1), 3) := by decide +kernel
theorem dX5_latest_85 : decode cX5_latest 85 = .ok (.goto (-49), 3) := by decide +kernel
theorem dX5_latest_88 : decode cX5_latest 88 = .ok (.lconst 0, 1) := by decide +kernel
theorem dX5_latest_89 : decode cX5_latest 89 = .ok (.lreturn, 1) := by decide +kernel
theorem dX5_sum_0 : decode cX5_sum 0 = .ok (.aload_n 0, 1) := by decide +kernel
theorem dX5_sum_1 : decode cX5_sum 1 = .ok (.iload_n 1, 1) := by decide +kernel
theorem dX5_sum_2 : decode cX5_sum 2 = .ok (.invokevirtual 99, 3) := by decide +kernel
theorem dX5_sum_5 : decode cX5_sum 5 = .ok (.ifCond .eq 27, 3) := by decide +kernel
theorem dX5_sum_8 : decode cX5_sum 8 = .ok (.aload_n 0, 1) := by decide +kernel
theorem dX5_sum_9 : decode cX5_sum 9 = .ok (.iload_n 2, 1) := by decide +kernel
theorem dX5_sum_10 : decode cX5_sum 10 = .ok (.invokevirtual 106, 3) := by decide +kernel
theorem dX5_sum_13 : decode cX5_sum 13 = .ok (.ifCond .eq 19, 3) := by decide +kernel
theorem dX5_sum_16 : decode cX5_sum 16 = .ok (.aload_n 0, 1) := by decide +kernel
theorem dX5_sum_17 : decode cX5_sum 17 = .ok (.getfield 20, 3) := by decide +kernel
theorem dX5_sum_20 : decode cX5_sum 20 = .ok (.iload_n 2, 1) := by decide +kernel
theorem dX5_sum_21 : decode cX5_sum 21 = .ok (.baload, 1) := by decide +kernel
theorem dX5_sum_22 : decode cX5_sum 22 = .ok (.ifCond .eq 10, 3) := by decide +kernel
theorem dX5_sum_25 : decode cX5_sum 25 = .ok (.iload_n 3, 1) := by decide +kernel
theorem dX5_sum_26 : decode cX5_sum 26 = .ok (.invokestatic 115, 3) := by decide +kernel
theorem dX5_sum_29 : decode cX5_sum 29 = .ok (.ifCond .ne 5, 3) := by decide +kernel
theorem dX5_sum_32 : decode cX5_sum 32 = .ok (.lconst 0, 1) := by decide +kernel
theorem dX5_sum_33 : decode cX5_sum 33 = .ok (.lreturn, 1) := by decide +kernel
theorem dX5_sum_34 : decode cX5_sum 34 = .ok (.lconst 0, 1) := by decide +kernel
theorem dX5_sum_35 : decode cX5_sum 35 = .ok (.lstore 4, 2) := by decide +kernel
theorem dX5_sum_37 : decode cX5_sum 37 = .ok (.iconst 0, 1) := by decide +kernel
theorem dX5_sum_38 : decode cX5_sum 38 = .ok (.istore 6, 2) := by decide +kernel
theorem dX5_sum_40 : decode cX5_sum 40 = .ok (.iload 6, 2) := by decide +kernel
theorem dX5_sum_42 : decode cX5_sum 42 = .ok (.aload_n 0, 1) := by decide +kernel
theorem dX5_sum_43 : decode cX5_sum 43 = .ok (.getfield 67, 3) := by decide +kernel
theorem dX5_sum_46 : decode cX5_sum 46 = .ok (.iload_n 1, 1) := by decide +kernel
theorem dX5_sum_47 : decode cX5_sum 47 = .ok (.iaload, 1) := by decide +kernel
theorem dX5_sum_48 : decode cX5_sum 48 = .ok (.if_icmp .ge 42, 3) := by decide +kernel
theorem dX5_sum_51 : decode cX5_sum 51 = .ok (.lload 4, 2) := by decide +kernel
theorem dX5_sum_53 : decode cX5_sum 53 = .ok (.aload_n 0, 1) := by decide +kernel
theorem dX5_sum_54 : decode cX5_sum 54 = .ok (.getfield 58, 3) := by decide +kernel
theorem dX5_sum_57 : decode cX5_sum 57 = .ok (.bipush 96, 2) := by decide +kernel
theorem dX5_sum_59 : decode cX5_sum 59 = .ok (.aload_n 0, 1) := by decide +kernel
theorem dX5_sum_60 : decode cX5_sum 60 = .ok (.getfield 64, 3) := by decide +kernel
theorem dX5_sum_63 : decode cX5_sum 63 = .ok (.sipush 150, 3) := by decide +kernel
theorem dX5_sum_66 : decode cX5_sum 66 = .ok (.iload_n 1, 1) := by decide +kernel
theorem dX5_sum_67 : decode cX5_sum 67 = .ok (.imul, 1) := by decide +kernel
theorem dX5_sum_68 : decode cX5_sum 68 = .ok (.iload 6, 2) := by decide +kernel
theorem dX5_sum_70 : decode cX5_sum 70 = .ok (.iadd, 1) := by decide +kernel
theorem dX5_sum_71 : decode cX5_sum 71 = .ok (.iaload, 1) := by decide +kernel
theorem dX5_sum_72 : decode cX5_sum 72 = .ok (.imul, 1) := by decide +kernel
theorem dX5_sum_73 : decode cX5_sum 73 = .ok (.bipush 8, 2) := by decide +kernel
theorem dX5_sum_75 : decode cX5_sum 75 = .ok (.iload_n 2, 1) := by decide +kernel
theorem dX5_sum_76 : decode cX5_sum 76 = .ok (.imul, 1) := by decide +kernel
theorem dX5_sum_77 : decode cX5_sum 77 = .ok (.iadd, 1) := by decide +kernel
theorem dX5_sum_78 : decode cX5_sum 78 = .ok (.iload_n 3, 1) := by decide +kernel
theorem dX5_sum_79 : decode cX5_sum 79 = .ok (.iadd, 1) := by decide +kernel
theorem dX5_sum_80 : decode cX5_sum 80 = .ok (.laload, 1) := by decide +kernel
theorem dX5_sum_81 : decode cX5_sum 81 = .ok (.ladd, 1) := by decide +kernel
theorem dX5_sum_82 : decode cX5_sum 82 = .ok (.lstore 4, 2) := by decide +kernel
theorem dX5_sum_84 : decode cX5_sum 84 = .ok (.iinc 6 1, 3) := by decide +kernel
theorem dX5_sum_87 : decode cX5_sum 87 = .ok (.goto (-47), 3) := by decide +kernel
theorem dX5_sum_90 : decode cX5_sum 90 = .ok (.lload 4, 2) := by decide +kernel
theorem dX5_sum_92 : decode cX5_sum 92 = .ok (.lreturn, 1) := by decide +kernel
theorem dX5_plain_0 : decode cX5_plain 0 = .ok (.iconst 0, 1) := by decide +kernel
theorem dX5_plain_1 : decode cX5_plain 1 = .ok (.istore_n 2, 1) := by decide +kernel
theorem dX5_plain_2 : decode cX5_plain 2 = .ok (.iconst 0, 1) := by decide +kernel
theorem dX5_plain_3 : decode cX5_plain 3 = .ok (.istore_n 3, 1) := by decide +kernel
theorem dX5_plain_4 : decode cX5_plain 4 = .ok (.iload_n 3, 1) := by decide +kernel
theorem dX5_plain_5 : decode cX5_plain 5 = .ok (.aload_n 0, 1) := by decide +kernel
theorem dX5_plain_6 : decode cX5_plain 6 = .ok (.getfield 89, 3) := by decide +kernel
theorem dX5_plain_9 : decode cX5_plain 9 = .ok (.if_icmp .ge 31, 3) := by decide +kernel
theorem dX5_plain_12 : decode cX5_plain 12 = .ok (.iload_n 2, 1) := by decide +kernel
theorem dX5_plain_13 : decode cX5_plain 13 = .ok (.aload_n 0, 1) := by decide +kernel
theorem dX5_plain_14 : decode cX5_plain 14 = .ok (.getfield 48, 3) := by decide +kernel
theorem dX5_plain_17 : decode cX5_plain 17 = .ok (.bipush 12, 2) := by decide +kernel
theorem dX5_plain_19 : decode cX5_plain 19 = .ok (.iload_n 1, 1) := by decide +kernel
theorem dX5_plain_20 : decode cX5_plain 20 = .ok (.imul, 1) := by decide +kernel
theorem dX5_plain_21 : decode cX5_plain 21 = .ok (.iload_n 3, 1) := by decide +kernel
theorem dX5_plain_22 : decode cX5_plain 22 = .ok (.iadd, 1) := by decide +kernel
theorem dX5_plain_23 : decode cX5_plain 23 = .ok (.baload, 1) := by decide +kernel
theorem dX5_plain_24 : decode cX5_plain 24 = .ok (.ifCond .eq 7, 3) := by decide +kernel
theorem dX5_plain_27 : decode cX5_plain 27 = .ok (.iconst 1, 1) := by decide +kernel
theorem dX5_plain_28 : decode cX5_plain 28 = .ok (.goto 4, 3) := by decide +kernel
theorem dX5_plain_31 : decode cX5_plain 31 = .ok (.iconst 0, 1) := by decide +kernel
theorem dX5_plain_32 : decode cX5_plain 32 = .ok (.iadd, 1) := by decide +kernel
theorem dX5_plain_33 : decode cX5_plain 33 = .ok (.istore_n 2, 1) := by decide +kernel
theorem dX5_plain_34 : decode cX5_plain 34 = .ok (.iinc 3 1, 3) := by decide +kernel
theorem dX5_plain_37 : decode cX5_plain 37 = .ok (.goto (-33), 3) := by decide +kernel
theorem dX5_plain_40 : decode cX5_plain 40 = .ok (.iload_n 2, 1) := by decide +kernel
theorem dX5_plain_41 : decode cX5_plain 41 = .ok (.ireturn, 1) := by decide +kernel
theorem dX5_write_0 : decode cX5_write 0 = .ok (.aload_n 0, 1) := by decide +kernel
theorem dX5_write_1 : decode cX5_write 1 = .ok (.iload_n 1, 1) := by decide +kernel
theorem dX5_write_2 : decode cX5_write 2 = .ok (.invokevirtual 103, 3) := by decide +kernel
theorem dX5_write_5 : decode cX5_write 5 = .ok (.ifCond .eq 20, 3) := by decide +kernel
theorem dX5_write_8 : decode cX5_write 8 = .ok (.aload_n 0, 1) := by decide +kernel
theorem dX5_write_9 : decode cX5_write 9 = .ok (.iload_n 2, 1) := by decide +kernel
theorem dX5_write_10 : decode cX5_write 10 = .ok (.invokevirtual 106, 3) := by decide +kernel
theorem dX5_write_13 : decode cX5_write 13 = .ok (.ifCond .eq 12, 3) := by decide +kernel
theorem dX5_write_16 : decode cX5_write 16 = .ok (.aload_n 0, 1) := by decide +kernel
theorem dX5_write_17 : decode cX5_write 17 = .ok (.getfield 20, 3) := by decide +kernel
theorem dX5_write_20 : decode cX5_write 20 = .ok (.iload_n 2, 1) := by decide +kernel
theorem dX5_write_21 : decode cX5_write 21 = .ok (.baload, 1) := by decide +kernel
theorem dX5_write_22 : decode cX5_write 22 = .ok (.ifCond .eq 5, 3) := by decide +kernel
theorem dX5_write_25 : decode cX5_write 25 = .ok (.iconst (-1), 1) := by decide +kernel
theorem dX5_write_26 : decode cX5_write 26 = .ok (.ireturn, 1) := by decide +kernel
theorem dX5_write_27 : decode cX5_write 27 = .ok (.aload_n 0, 1) := by decide +kernel
theorem dX5_write_28 : decode cX5_write 28 = .ok (.getfield 27, 3) := by decide +kernel
theorem dX5_write_31 : decode cX5_write 31 = .ok (.iload_n 1, 1) := by decide +kernel
theorem dX5_write_32 : decode cX5_write 32 = .ok (.iaload, 1) := by decide +kernel
theorem dX5_write_33 : decode cX5_write 33 = .ok (.ifCond .eq 6, 3) := by decide +kernel
theorem dX5_write_36 : decode cX5_write 36 = .ok (.bipush (-2), 2) := by decide +kernel
theorem dX5_write_38 : decode cX5_write 38 = .ok (.ireturn, 1) := by decide +kernel
theorem dX5_write_39 : decode cX5_write 39 = .ok (.aload_n 0, 1) := by decide +kernel
theorem dX5_write_40 : decode cX5_write 40 = .ok (.getfield 48, 3) := by decide +kernel
theorem dX5_write_43 : decode cX5_write 43 = .ok (.bipush 12, 2) := by decide +kernel
theorem dX5_write_45 : decode cX5_write 45 = .ok (.iload_n 1, 1) := by decide +kernel
theorem dX5_write_46 : decode cX5_write 46 = .ok (.imul, 1) := by decide +kernel
theorem dX5_write_47 : decode cX5_write 47 = .ok (.iload_n 2, 1) := by decide +kernel
theorem dX5_write_48 : decode cX5_write 48 = .ok (.iadd, 1) := by decide +kernel
theorem dX5_write_49 : decode cX5_write 49 = .ok (.iconst 1, 1) := by decide +kernel
theorem dX5_write_50 : decode cX5_write 50 = .ok (.bastore, 1) := by decide +kernel
theorem dX5_write_51 : decode cX5_write 51 = .ok (.aload_n 0, 1) := by decide +kernel
theorem dX5_write_52 : decode cX5_write 52 = .ok (.getfield 51, 3) := by decide +kernel
theorem dX5_write_55 : decode cX5_write 55 = .ok (.bipush 12, 2) := by decide +kernel
theorem dX5_write_57 : decode cX5_write 57 = .ok (.iload_n 1, 1) := by decide +kernel
theorem dX5_write_58 : decode cX5_write 58 = .ok (.imul, 1) := by decide +kernel
theorem dX5_write_59 : decode cX5_write 59 = .ok (.iload_n 2, 1) := by decide +kernel
theorem dX5_write_60 : decode cX5_write 60 = .ok (.iadd, 1) := by decide +kernel
theorem dX5_write_61 : decode cX5_write 61 = .ok (.lload_n 3, 1) := by decide +kernel
theorem dX5_write_62 : decode cX5_write 62 = .ok (.lastore, 1) := by decide +kernel
theorem dX5_write_63 : decode cX5_write 63 = .ok (.aload_n 0, 1) := by decide +kernel
theorem dX5_write_64 : decode cX5_write 64 = .ok (.iload_n 1, 1) := by decide +kernel
theorem dX5_write_65 : decode cX5_write 65 = .ok (.invokevirtual 118, 3) := by decide +kernel
theorem dX5_write_68 : decode cX5_write 68 = .ok (.ireturn, 1) := by decide +kernel
theorem dX5_add_0 : decode cX5_add 0 = .ok (.aload_n 0, 1) := by decide +kernel
theorem dX5_add_1 : decode cX5_add 1 = .ok (.iload_n 1, 1) := by decide +kernel
theorem dX5_add_2 : decode cX5_add 2 = .ok (.invokevirtual 103, 3) := by decide +kernel
theorem dX5_add_5 : decode cX5_add 5 = .ok (.ifCond .eq 27, 3) := by decide +kernel
theorem dX5_add_8 : decode cX5_add 8 = .ok (.aload_n 0, 1) := by decide +kernel
theorem dX5_add_9 : decode cX5_add 9 = .ok (.iload_n 2, 1) := by decide +kernel
theorem dX5_add_10 : decode cX5_add 10 = .ok (.invokevirtual 106, 3) := by decide +kernel
theorem dX5_add_13 : decode cX5_add 13 = .ok (.ifCond .eq 19, 3) := by decide +kernel
theorem dX5_add_16 : decode cX5_add 16 = .ok (.aload_n 0, 1) := by decide +kernel
theorem dX5_add_17 : decode cX5_add 17 = .ok (.getfield 20, 3) := by decide +kernel
theorem dX5_add_20 : decode cX5_add 20 = .ok (.iload_n 2, 1) := by decide +kernel
theorem dX5_add_21 : decode cX5_add 21 = .ok (.baload, 1) := by decide +kernel
theorem dX5_add_22 : decode cX5_add 22 = .ok (.ifCond .eq 10, 3) := by decide +kernel
theorem dX5_add_25 : decode cX5_add 25 = .ok (.iload_n 3, 1) := by decide +kernel
theorem dX5_add_26 : decode cX5_add 26 = .ok (.invokestatic 115, 3) := by decide +kernel
theorem dX5_add_29 : decode cX5_add 29 = .ok (.ifCond .ne 5, 3) := by decide +kernel
theorem dX5_add_32 : decode cX5_add 32 = .ok (.iconst (-1), 1) := by decide +kernel
theorem dX5_add_33 : decode cX5_add 33 = .ok (.ireturn, 1) := by decide +kernel
theorem dX5_add_34 : decode cX5_add 34 = .ok (.aload_n 0, 1) := by decide +kernel
theorem dX5_add_35 : decode cX5_add 35 = .ok (.getfield 27, 3) := by decide +kernel
theorem dX5_add_38 : decode cX5_add 38 = .ok (.iload_n 1, 1) := by decide +kernel
theorem dX5_add_39 : decode cX5_add 39 = .ok (.iaload, 1) := by decide +kernel
theorem dX5_add_40 : decode cX5_add 40 = .ok (.ifCond .eq 6, 3) := by decide +kernel
theorem dX5_add_43 : decode cX5_add 43 = .ok (.bipush (-2), 2) := by decide +kernel
theorem dX5_add_45 : decode cX5_add 45 = .ok (.ireturn, 1) := by decide +kernel
theorem dX5_add_46 : decode cX5_add 46 = .ok (.aload_n 0, 1) := by decide +kernel
theorem dX5_add_47 : decode cX5_add 47 = .ok (.getfield 55, 3) := by decide +kernel
theorem dX5_add_50 : decode cX5_add 50 = .ok (.bipush 12, 2) := by decide +kernel
theorem dX5_add_52 : decode cX5_add 52 = .ok (.iload_n 1, 1) := by decide +kernel
theorem dX5_add_53 : decode cX5_add 53 = .ok (.imul, 1) := by decide +kernel
theorem dX5_add_54 : decode cX5_add 54 = .ok (.iload_n 2, 1) := by decide +kernel
theorem dX5_add_55 : decode cX5_add 55 = .ok (.iadd, 1) := by decide +kernel
theorem dX5_add_56 : decode cX5_add 56 = .ok (.iconst 1, 1) := by decide +kernel
theorem dX5_add_57 : decode cX5_add 57 = .ok (.bastore, 1) := by decide +kernel
theorem dX5_add_58 : decode cX5_add 58 = .ok (.aload_n 0, 1) := by decide +kernel
theorem dX5_add_59 : decode cX5_add 59 = .ok (.getfield 58, 3) := by decide +kernel
theorem dX5_add_62 : decode cX5_add 62 = .ok (.bipush 96, 2) := by decide +kernel
theorem dX5_add_64 : decode cX5_add 64 = .ok (.iload_n 1, 1) := by decide +kernel
theorem dX5_add_65 : decode cX5_add 65 = .ok (.imul, 1) := by decide +kernel
theorem dX5_add_66 : decode cX5_add 66 = .ok (.bipush 8, 2) := by decide +kernel
theorem dX5_add_68 : decode cX5_add 68 = .ok (.iload_n 2, 1) := by decide +kernel
theorem dX5_add_69 : decode cX5_add 69 = .ok (.imul, 1) := by decide +kernel
theorem dX5_add_70 : decode cX5_add 70 = .ok (.iadd, 1) := by decide +kernel
theorem dX5_add_71 : decode cX5_add 71 = .ok (.iload_n 3, 1) := by decide +kernel
theorem dX5_add_72 : decode cX5_add 72 = .ok (.iadd, 1) := by decide +kernel
theorem dX5_add_73 : decode cX5_add 73 = .ok (.dup2, 1) := by decide +kernel
theorem dX5_add_74 : decode cX5_add 74 = .ok (.laload, 1) := by decide +kernel
theorem dX5_add_75 : decode cX5_add 75 = .ok (.iload 4, 2) := by decide +kernel
theorem dX5_add_77 : decode cX5_add 77 = .ok (.i2l, 1) := by decide +kernel
theorem dX5_add_78 : decode cX5_add 78 = .ok (.ladd, 1) := by decide +kernel
theorem dX5_add_79 : decode cX5_add 79 = .ok (.lastore, 1) := by decide +kernel
theorem dX5_add_80 : decode cX5_add 80 = .ok (.iconst 1, 1) := by decide +kernel
theorem dX5_add_81 : decode cX5_add 81 = .ok (.ireturn, 1) := by decide +kernel
theorem dX5_send_0 : decode cX5_send 0 = .ok (.aload_n 0, 1) := by decide +kernel
theorem dX5_send_1 : decode cX5_send 1 = .ok (.getfield 73, 3) := by decide +kernel
theorem dX5_send_4 : decode cX5_send 4 = .ok (.aload_n 0, 1) := by decide +kernel
theorem dX5_send_5 : decode cX5_send 5 = .ok (.getfield 122, 3) := by decide +kernel
theorem dX5_send_8 : decode cX5_send 8 = .ok (.iload_n 1, 1) := by decide +kernel
theorem dX5_send_9 : decode cX5_send 9 = .ok (.iastore, 1) := by decide +kernel
theorem dX5_send_10 : decode cX5_send 10 = .ok (.aload_n 0, 1) := by decide +kernel
theorem dX5_send_11 : decode cX5_send 11 = .ok (.getfield 76, 3) := by decide +kernel
theorem dX5_send_14 : decode cX5_send 14 = .ok (.aload_n 0, 1) := by decide +kernel
theorem dX5_send_15 : decode cX5_send 15 = .ok (.getfield 122, 3) := by decide +kernel
theorem dX5_send_18 : decode cX5_send 18 = .ok (.iload_n 2, 1) := by decide +kernel
theorem dX5_send_19 : decode cX5_send 19 = .ok (.iastore, 1) := by decide +kernel
theorem dX5_send_20 : decode cX5_send 20 = .ok (.aload_n 0, 1) := by decide +kernel
theorem dX5_send_21 : decode cX5_send 21 = .ok (.getfield 79, 3) := by decide +kernel
theorem dX5_send_24 : decode cX5_send 24 = .ok (.aload_n 0, 1) := by decide +kernel
theorem dX5_send_25 : decode cX5_send 25 = .ok (.getfield 122, 3) := by decide +kernel
theorem dX5_send_28 : decode cX5_send 28 = .ok (.iload_n 3, 1) := by decide +kernel
theorem dX5_send_29 : decode cX5_send 29 = .ok (.iastore, 1) := by decide +kernel
theorem dX5_send_30 : decode cX5_send 30 = .ok (.aload_n 0, 1) := by decide +kernel
theorem dX5_send_31 : decode cX5_send 31 = .ok (.getfield 82, 3) := by decide +kernel
theorem dX5_send_34 : decode cX5_send 34 = .ok (.aload_n 0, 1) := by decide +kernel
theorem dX5_send_35 : decode cX5_send 35 = .ok (.getfield 122, 3) := by decide +kernel
theorem dX5_send_38 : decode cX5_send 38 = .ok (.iload 4, 2) := by decide +kernel
theorem dX5_send_40 : decode cX5_send 40 = .ok (.iastore, 1) := by decide +kernel
theorem dX5_send_41 : decode cX5_send 41 = .ok (.aload_n 0, 1) := by decide +kernel
theorem dX5_send_42 : decode cX5_send 42 = .ok (.dup, 1) := by decide +kernel
theorem dX5_send_43 : decode cX5_send 43 = .ok (.getfield 122, 3) := by decide +kernel
theorem dX5_send_46 : decode cX5_send 46 = .ok (.iconst 1, 1) := by decide +kernel
theorem dX5_send_47 : decode cX5_send 47 = .ok (.iadd, 1) := by decide +kernel
theorem dX5_send_48 : decode cX5_send 48 = .ok (.putfield 122, 3) := by decide +kernel
theorem dX5_send_51 : decode cX5_send 51 = .ok (.return_, 1) := by decide +kernel
theorem dX5_isFree_0 : decode cX5_isFree 0 = .ok (.aload_n 0, 1) := by decide +kernel
theorem dX5_isFree_1 : decode cX5_isFree 1 = .ok (.getfield 70, 3) := by decide +kernel
theorem dX5_isFree_4 : decode cX5_isFree 4 = .ok (.bipush 12, 2) := by decide +kernel
theorem dX5_isFree_6 : decode cX5_isFree 6 = .ok (.iload_n 3, 1) := by decide +kernel
theorem dX5_isFree_7 : decode cX5_isFree 7 = .ok (.imul, 1) := by decide +kernel
theorem dX5_isFree_8 : decode cX5_isFree 8 = .ok (.iload_n 2, 1) := by decide +kernel
theorem dX5_isFree_9 : decode cX5_isFree 9 = .ok (.iadd, 1) := by decide +kernel
theorem dX5_isFree_10 : decode cX5_isFree 10 = .ok (.iaload, 1) := by decide +kernel
theorem dX5_isFree_11 : decode cX5_isFree 11 = .ok (.bipush (-4), 2) := by decide +kernel
theorem dX5_isFree_13 : decode cX5_isFree 13 = .ok (.if_icmp .ne 7, 3) := by decide +kernel
theorem dX5_isFree_16 : decode cX5_isFree 16 = .ok (.iconst 1, 1) := by decide +kernel
theorem dX5_isFree_17 : decode cX5_isFree 17 = .ok (.goto 4, 3) := by decide +kernel
theorem dX5_isFree_20 : decode cX5_isFree 20 = .ok (.iconst 0, 1) := by decide +kernel
theorem dX5_isFree_21 : decode cX5_isFree 21 = .ok (.istore 4, 2) := by decide +kernel
theorem dX5_isFree_23 : decode cX5_isFree 23 = .ok (.iconst 0, 1) := by decide +kernel
theorem dX5_isFree_24 : decode cX5_isFree 24 = .ok (.istore 5, 2) := by decide +kernel
theorem dX5_isFree_26 : decode cX5_isFree 26 = .ok (.iload 5, 2) := by decide +kernel
theorem dX5_isFree_28 : decode cX5_isFree 28 = .ok (.aload_n 0, 1) := by decide +kernel
theorem dX5_isFree_29 : decode cX5_isFree 29 = .ok (.getfield 67, 3) := by decide +kernel
theorem dX5_isFree_32 : decode cX5_isFree 32 = .ok (.iload_n 3, 1) := by decide +kernel
theorem dX5_isFree_33 : decode cX5_isFree 33 = .ok (.iaload, 1) := by decide +kernel
theorem dX5_isFree_34 : decode cX5_isFree 34 = .ok (.if_icmp .ge 61, 3) := by decide +kernel
theorem dX5_isFree_37 : decode cX5_isFree 37 = .ok (.aload_n 0, 1) := by decide +kernel
theorem dX5_isFree_38 : decode cX5_isFree 38 = .ok (.getfield 64, 3) := by decide +kernel
theorem dX5_isFree_41 : decode cX5_isFree 41 = .ok (.sipush 150, 3) := by decide +kernel
theorem dX5_isFree_44 : decode cX5_isFree 44 = .ok (.iload_n 3, 1) := by decide +kernel
theorem dX5_isFree_45 : decode cX5_isFree 45 = .ok (.imul, 1) := by decide +kernel
theorem dX5_isFree_46 : decode cX5_isFree 46 = .ok (.iload 5, 2) := by decide +kernel
theorem dX5_isFree_48 : decode cX5_isFree 48 = .ok (.iadd, 1) := by decide +kernel
theorem dX5_isFree_49 : decode cX5_isFree 49 = .ok (.iaload, 1) := by decide +kernel
theorem dX5_isFree_50 : decode cX5_isFree 50 = .ok (.istore 6, 2) := by decide +kernel
theorem dX5_isFree_52 : decode cX5_isFree 52 = .ok (.iload 4, 2) := by decide +kernel
theorem dX5_isFree_54 : decode cX5_isFree 54 = .ok (.ifCond .eq 32, 3) := by decide +kernel
theorem dX5_isFree_57 : decode cX5_isFree 57 = .ok (.aload_n 0, 1) := by decide +kernel
theorem dX5_isFree_58 : decode cX5_isFree 58 = .ok (.getfield 48, 3) := by decide +kernel
theorem dX5_isFree_61 : decode cX5_isFree 61 = .ok (.bipush 12, 2) := by decide +kernel
theorem dX5_isFree_63 : decode cX5_isFree 63 = .ok (.iload 6, 2) := by decide +kernel
theorem dX5_isFree_65 : decode cX5_isFree 65 = .ok (.imul, 1) := by decide +kernel
theorem dX5_isFree_66 : decode cX5_isFree 66 = .ok (.iload_n 2, 1) := by decide +kernel
theorem dX5_isFree_67 : decode cX5_isFree 67 = .ok (.iadd, 1) := by decide +kernel
theorem dX5_isFree_68 : decode cX5_isFree 68 = .ok (.baload, 1) := by decide +kernel
theorem dX5_isFree_69 : decode cX5_isFree 69 = .ok (.ifCond .eq 13, 3) := by decide +kernel
theorem dX5_isFree_72 : decode cX5_isFree 72 = .ok (.aload_n 0, 1) := by decide +kernel
theorem dX5_isFree_73 : decode cX5_isFree 73 = .ok (.iload_n 1, 1) := by decide +kernel
theorem dX5_isFree_74 : decode cX5_isFree 74 = .ok (.iload 6, 2) := by decide +kernel
theorem dX5_isFree_76 : decode cX5_isFree 76 = .ok (.invokevirtual 109, 3) := by decide +kernel
theorem dX5_isFree_79 : decode cX5_isFree 79 = .ok (.ifCond .eq 7, 3) := by decide +kernel
theorem dX5_isFree_82 : decode cX5_isFree 82 = .ok (.iconst 1, 1) := by decide +kernel
theorem dX5_isFree_83 : decode cX5_isFree 83 = .ok (.goto 4, 3) := by decide +kernel
theorem dX5_isFree_86 : decode cX5_isFree 86 = .ok (.iconst 0, 1) := by decide +kernel
theorem dX5_isFree_87 : decode cX5_isFree 87 = .ok (.istore 4, 2) := by decide +kernel
theorem dX5_isFree_89 : decode cX5_isFree 89 = .ok (.iinc 5 1, 3) := by decide +kernel
theorem dX5_isFree_92 : decode cX5_isFree 92 = .ok (.goto (-66), 3) := by decide +kernel
theorem dX5_isFree_95 : decode cX5_isFree 95 = .ok (.iload 4, 2) := by decide +kernel
theorem dX5_isFree_97 : decode cX5_isFree 97 = .ok (.ireturn, 1) := by decide +kernel
theorem dX5_areFree_0 : decode cX5_areFree 0 = .ok (.iconst 1, 1) := by decide +kernel
theorem dX5_areFree_1 : decode cX5_areFree 1 = .ok (.istore_n 3, 1) := by decide +kernel
theorem dX5_areFree_2 : decode cX5_areFree 2 = .ok (.iconst 0, 1) := by decide +kernel
theorem dX5_areFree_3 : decode cX5_areFree 3 = .ok (.istore 4, 2) := by decide +kernel
theorem dX5_areFree_5 : decode cX5_areFree 5 = .ok (.iload 4, 2) := by decide +kernel
theorem dX5_areFree_7 : decode cX5_areFree 7 = .ok (.aload_n 0, 1) := by decide +kernel
theorem dX5_areFree_8 : decode cX5_areFree 8 = .ok (.getfield 89, 3) := by decide +kernel
theorem dX5_areFree_11 : decode cX5_areFree 11 = .ok (.if_icmp .ge 56, 3) := by decide +kernel
theorem dX5_areFree_14 : decode cX5_areFree 14 = .ok (.iload_n 3, 1) := by decide +kernel
theorem dX5_areFree_15 : decode cX5_areFree 15 = .ok (.ifCond .eq 44, 3) := by decide +kernel
theorem dX5_areFree_18 : decode cX5_areFree 18 = .ok (.aload_n 0, 1) := by decide +kernel
theorem dX5_areFree_19 : decode cX5_areFree 19 = .ok (.getfield 48, 3) := by decide +kernel
theorem dX5_areFree_22 : decode cX5_areFree 22 = .ok (.bipush 12, 2) := by decide +kernel
theorem dX5_areFree_24 : decode cX5_areFree 24 = .ok (.iload_n 1, 1) := by decide +kernel
theorem dX5_areFree_25 : decode cX5_areFree 25 = .ok (.imul, 1) := by decide +kernel
theorem dX5_areFree_26 : decode cX5_areFree 26 = .ok (.iload 4, 2) := by decide +kernel
theorem dX5_areFree_28 : decode cX5_areFree 28 = .ok (.iadd, 1) := by decide +kernel
theorem dX5_areFree_29 : decode cX5_areFree 29 = .ok (.baload, 1) := by decide +kernel
theorem dX5_areFree_30 : decode cX5_areFree 30 = .ok (.ifCond .eq 25, 3) := by decide +kernel
theorem dX5_areFree_33 : decode cX5_areFree 33 = .ok (.aload_n 0, 1) := by decide +kernel
theorem dX5_areFree_34 : decode cX5_areFree 34 = .ok (.getfield 16, 3) := by decide +kernel
theorem dX5_areFree_37 : decode cX5_areFree 37 = .ok (.iload 4, 2) := by decide +kernel
theorem dX5_areFree_39 : decode cX5_areFree 39 = .ok (.iaload, 1) := by decide +kernel
theorem dX5_areFree_40 : decode cX5_areFree 40 = .ok (.iload_n 2, 1) := by decide +kernel
theorem dX5_areFree_41 : decode cX5_areFree 41 = .ok (.if_icmp .ne 14, 3) := by decide +kernel
theorem dX5_areFree_44 : decode cX5_areFree 44 = .ok (.aload_n 0, 1) := by decide +kernel
theorem dX5_areFree_45 : decode cX5_areFree 45 = .ok (.iload_n 1, 1) := by decide +kernel
theorem dX5_areFree_46 : decode cX5_areFree 46 = .ok (.iload 4, 2) := by decide +kernel
theorem dX5_areFree_48 : decode cX5_areFree 48 = .ok (.iload_n 2, 1) := by decide +kernel
theorem dX5_areFree_49 : decode cX5_areFree 49 = .ok (.invokevirtual 125, 3) := by decide +kernel
theorem dX5_areFree_52 : decode cX5_areFree 52 = .ok (.ifCond .eq 7, 3) := by decide +kernel
theorem dX5_areFree_55 : decode cX5_areFree 55 = .ok (.iconst 1, 1) := by decide +kernel
theorem dX5_areFree_56 : decode cX5_areFree 56 = .ok (.goto 4, 3) := by decide +kernel
theorem dX5_areFree_59 : decode cX5_areFree 59 = .ok (.iconst 0, 1) := by decide +kernel
theorem dX5_areFree_60 : decode cX5_areFree 60 = .ok (.istore_n 3, 1) := by decide +kernel
theorem dX5_areFree_61 : decode cX5_areFree 61 = .ok (.iinc 4 1, 3) := by decide +kernel
theorem dX5_areFree_64 : decode cX5_areFree 64 = .ok (.goto (-59), 3) := by decide +kernel
theorem dX5_areFree_67 : decode cX5_areFree 67 = .ok (.iload_n 3, 1) := by decide +kernel
theorem dX5_areFree_68 : decode cX5_areFree 68 = .ok (.ireturn, 1) := by decide +kernel
theorem dX5_lock_0 : decode cX5_lock 0 = .ok (.iconst 0, 1) := by decide +kernel
theorem dX5_lock_1 : decode cX5_lock 1 = .ok (.istore_n 3, 1) := by decide +kernel
theorem dX5_lock_2 : decode cX5_lock 2 = .ok (.iload_n 3, 1) := by decide +kernel
theorem dX5_lock_3 : decode cX5_lock 3 = .ok (.aload_n 0, 1) := by decide +kernel
theorem dX5_lock_4 : decode cX5_lock 4 = .ok (.getfield 89, 3) := by decide +kernel
theorem dX5_lock_7 : decode cX5_lock 7 = .ok (.if_icmp .ge 45, 3) := by decide +kernel
theorem dX5_lock_10 : decode cX5_lock 10 = .ok (.aload_n 0, 1) := by decide +kernel
theorem dX5_lock_11 : decode cX5_lock 11 = .ok (.getfield 48, 3) := by decide +kernel
theorem dX5_lock_14 : decode cX5_lock 14 = .ok (.bipush 12, 2) := by decide +kernel
theorem dX5_lock_16 : decode cX5_lock 16 = .ok (.iload_n 1, 1) := by decide +kernel
theorem dX5_lock_17 : decode cX5_lock 17 = .ok (.imul, 1) := by decide +kernel
theorem dX5_lock_18 : decode cX5_lock 18 = .ok (.iload_n 3, 1) := by decide +kernel
theorem dX5_lock_19 : decode cX5_lock 19 = .ok (.iadd, 1) := by decide +kernel
theorem dX5_lock_20 : decode cX5_lock 20 = .ok (.baload, 1) := by decide +kernel
theorem dX5_lock_21 : decode cX5_lock 21 = .ok (.ifCond .eq 25, 3) := by decide +kernel
theorem dX5_lock_24 : decode cX5_lock 24 = .ok (.aload_n 0, 1) := by decide +kernel
theorem dX5_lock_25 : decode cX5_lock 25 = .ok (.getfield 16, 3) := by decide +kernel
theorem dX5_lock_28 : decode cX5_lock 28 = .ok (.iload_n 3, 1) := by decide +kernel
theorem dX5_lock_29 : decode cX5_lock 29 = .ok (.iaload, 1) := by decide +kernel
theorem dX5_lock_30 : decode cX5_lock 30 = .ok (.iload_n 2, 1) := by decide +kernel
theorem dX5_lock_31 : decode cX5_lock 31 = .ok (.if_icmp .ne 15, 3) := by decide +kernel
theorem dX5_lock_34 : decode cX5_lock 34 = .ok (.aload_n 0, 1) := by decide +kernel
theorem dX5_lock_35 : decode cX5_lock 35 = .ok (.getfield 70, 3) := by decide +kernel
theorem dX5_lock_38 : decode cX5_lock 38 = .ok (.bipush 12, 2) := by decide +kernel
theorem dX5_lock_40 : decode cX5_lock 40 = .ok (.iload_n 2, 1) := by decide +kernel
theorem dX5_lock_41 : decode cX5_lock 41 = .ok (.imul, 1) := by decide +kernel
theorem dX5_lock_42 : decode cX5_lock 42 = .ok (.iload_n 3, 1) := by decide +kernel
theorem dX5_lock_43 : decode cX5_lock 43 = .ok (.iadd, 1) := by decide +kernel
theorem dX5_lock_44 : decode cX5_lock 44 = .ok (.iload_n 1, 1) := by decide +kernel
theorem dX5_lock_45 : decode cX5_lock 45 = .ok (.iastore, 1) := by decide +kernel
theorem dX5_lock_46 : decode cX5_lock 46 = .ok (.iinc 3 1, 3) := by decide +kernel
theorem dX5_lock_49 : decode cX5_lock 49 = .ok (.goto (-47), 3) := by decide +kernel
theorem dX5_lock_52 : decode cX5_lock 52 = .ok (.return_, 1) := by decide +kernel
theorem dX5_unlock_0 : decode cX5_unlock 0 = .ok (.iconst 0, 1) := by decide +kernel
theorem dX5_unlock_1 : decode cX5_unlock 1 = .ok (.istore_n 3, 1) := by decide +kernel
theorem dX5_unlock_2 : decode cX5_unlock 2 = .ok (.iload_n 3, 1) := by decide +kernel
theorem dX5_unlock_3 : decode cX5_unlock 3 = .ok (.aload_n 0, 1) := by decide +kernel
theorem dX5_unlock_4 : decode cX5_unlock 4 = .ok (.getfield 89, 3) := by decide +kernel
theorem dX5_unlock_7 : decode cX5_unlock 7 = .ok (.if_icmp .ge 37, 3) := by decide +kernel
theorem dX5_unlock_10 : decode cX5_unlock 10 = .ok (.aload_n 0, 1) := by decide +kernel
theorem dX5_unlock_11 : decode cX5_unlock 11 = .ok (.getfield 70, 3) := by decide +kernel
theorem dX5_unlock_14 : decode cX5_unlock 14 = .ok (.bipush 12, 2) := by decide +kernel
theorem dX5_unlock_16 : decode cX5_unlock 16 = .ok (.iload_n 2, 1) := by decide +kernel
theorem dX5_unlock_17 : decode cX5_unlock 17 = .ok (.imul, 1) := by decide +kernel
theorem dX5_unlock_18 : decode cX5_unlock 18 = .ok (.iload_n 3, 1) := by decide +kernel
theorem dX5_unlock_19 : decode cX5_unlock 19 = .ok (.iadd, 1) := by decide +kernel
theorem dX5_unlock_20 : decode cX5_unlock 20 = .ok (.iaload, 1) := by decide +kernel
theorem dX5_unlock_21 : decode cX5_unlock 21 = .ok (.iload_n 1, 1) := by decide +kernel
theorem dX5_unlock_22 : decode cX5_unlock 22 = .ok (.if_icmp .ne 16, 3) := by decide +kernel
theorem dX5_unlock_25 : decode cX5_unlock 25 = .ok (.aload_n 0, 1) := by decide +kernel
theorem dX5_unlock_26 : decode cX5_unlock 26 = .ok (.getfield 70, 3) := by decide +kernel
theorem dX5_unlock_29 : decode cX5_unlock 29 = .ok (.bipush 12, 2) := by decide +kernel
theorem dX5_unlock_31 : decode cX5_unlock 31 = .ok (.iload_n 2, 1) := by decide +kernel
theorem dX5_unlock_32 : decode cX5_unlock 32 = .ok (.imul, 1) := by decide +kernel
theorem dX5_unlock_33 : decode cX5_unlock 33 = .ok (.iload_n 3, 1) := by decide +kernel
theorem dX5_unlock_34 : decode cX5_unlock 34 = .ok (.iadd, 1) := by decide +kernel
theorem dX5_unlock_35 : decode cX5_unlock 35 = .ok (.bipush (-4), 2) := by decide +kernel
theorem dX5_unlock_37 : decode cX5_unlock 37 = .ok (.iastore, 1) := by decide +kernel
theorem dX5_unlock_38 : decode cX5_unlock 38 = .ok (.iinc 3 1, 3) := by decide +kernel
theorem dX5_unlock_41 : decode cX5_unlock 41 = .ok (.goto (-39), 3) := by decide +kernel
theorem dX5_unlock_44 : decode cX5_unlock 44 = .ok (.return_, 1) := by decide +kernel
theorem dX5_writesAt_0 : decode cX5_writesAt 0 = .ok (.iconst 0, 1) := by decide +kernel
theorem dX5_writesAt_1 : decode cX5_writesAt 1 = .ok (.istore_n 3, 1) := by decide +kernel
theorem dX5_writesAt_2 : decode cX5_writesAt 2 = .ok (.iconst 0, 1) := by decide +kernel
theorem dX5_writesAt_3 : decode cX5_writesAt 3 = .ok (.istore 4, 2) := by decide +kernel
theorem dX5_writesAt_5 : decode cX5_writesAt 5 = .ok (.iload 4, 2) := by decide +kernel
theorem dX5_writesAt_7 : decode cX5_writesAt 7 = .ok (.aload_n 0, 1) := by decide +kernel
theorem dX5_writesAt_8 : decode cX5_writesAt 8 = .ok (.getfield 89, 3) := by decide +kernel
theorem dX5_writesAt_11 : decode cX5_writesAt 11 = .ok (.if_icmp .ge 45, 3) := by decide +kernel
theorem dX5_writesAt_14 : decode cX5_writesAt 14 = .ok (.iload_n 3, 1) := by decide +kernel
theorem dX5_writesAt_15 : decode cX5_writesAt 15 = .ok (.ifCond .ne 29, 3) := by decide +kernel
theorem dX5_writesAt_18 : decode cX5_writesAt 18 = .ok (.aload_n 0, 1) := by decide +kernel
theorem dX5_writesAt_19 : decode cX5_writesAt 19 = .ok (.getfield 48, 3) := by decide +kernel
theorem dX5_writesAt_22 : decode cX5_writesAt 22 = .ok (.bipush 12, 2) := by decide +kernel
theorem dX5_writesAt_24 : decode cX5_writesAt 24 = .ok (.iload_n 1, 1) := by decide +kernel
theorem dX5_writesAt_25 : decode cX5_writesAt 25 = .ok (.imul, 1) := by decide +kernel
theorem dX5_writesAt_26 : decode cX5_writesAt 26 = .ok (.iload 4, 2) := by decide +kernel
theorem dX5_writesAt_28 : decode cX5_writesAt 28 = .ok (.iadd, 1) := by decide +kernel
theorem dX5_writesAt_29 : decode cX5_writesAt 29 = .ok (.baload, 1) := by decide +kernel
theorem dX5_writesAt_30 : decode cX5_writesAt 30 = .ok (.ifCond .eq 18, 3) := by decide +kernel
theorem dX5_writesAt_33 : decode cX5_writesAt 33 = .ok (.aload_n 0, 1) := by decide +kernel
theorem dX5_writesAt_34 : decode cX5_writesAt 34 = .ok (.getfield 16, 3) := by decide +kernel
theorem dX5_writesAt_37 : decode cX5_writesAt 37 = .ok (.iload 4, 2) := by decide +kernel
theorem dX5_writesAt_39 : decode cX5_writesAt 39 = .ok (.iaload, 1) := by decide +kernel
theorem dX5_writesAt_40 : decode cX5_writesAt 40 = .ok (.iload_n 2, 1) := by decide +kernel
theorem dX5_writesAt_41 : decode cX5_writesAt 41 = .ok (.if_icmp .ne 7, 3) := by decide +kernel
theorem dX5_writesAt_44 : decode cX5_writesAt 44 = .ok (.iconst 1, 1) := by decide +kernel
theorem dX5_writesAt_45 : decode cX5_writesAt 45 = .ok (.goto 4, 3) := by decide +kernel
theorem dX5_writesAt_48 : decode cX5_writesAt 48 = .ok (.iconst 0, 1) := by decide +kernel
theorem dX5_writesAt_49 : decode cX5_writesAt 49 = .ok (.istore_n 3, 1) := by decide +kernel
theorem dX5_writesAt_50 : decode cX5_writesAt 50 = .ok (.iinc 4 1, 3) := by decide +kernel
theorem dX5_writesAt_53 : decode cX5_writesAt 53 = .ok (.goto (-48), 3) := by decide +kernel
theorem dX5_writesAt_56 : decode cX5_writesAt 56 = .ok (.iload_n 3, 1) := by decide +kernel
theorem dX5_writesAt_57 : decode cX5_writesAt 57 = .ok (.ireturn, 1) := by decide +kernel
theorem dX5_comes_0 : decode cX5_comes 0 = .ok (.aload_n 0, 1) := by decide +kernel
theorem dX5_comes_1 : decode cX5_comes 1 = .ok (.getfield 61, 3) := by decide +kernel
theorem dX5_comes_4 : decode cX5_comes 4 = .ok (.iconst 4, 1) := by decide +kernel
theorem dX5_comes_5 : decode cX5_comes 5 = .ok (.iload_n 1, 1) := by decide +kernel
theorem dX5_comes_6 : decode cX5_comes 6 = .ok (.imul, 1) := by decide +kernel
theorem dX5_comes_7 : decode cX5_comes 7 = .ok (.aload_n 0, 1) := by decide +kernel
theorem dX5_comes_8 : decode cX5_comes 8 = .ok (.getfield 24, 3) := by decide +kernel
theorem dX5_comes_11 : decode cX5_comes 11 = .ok (.iload_n 2, 1) := by decide +kernel
theorem dX5_comes_12 : decode cX5_comes 12 = .ok (.iaload, 1) := by decide +kernel
theorem dX5_comes_13 : decode cX5_comes 13 = .ok (.iadd, 1) := by decide +kernel
theorem dX5_comes_14 : decode cX5_comes 14 = .ok (.dup2, 1) := by decide +kernel
theorem dX5_comes_15 : decode cX5_comes 15 = .ok (.iaload, 1) := by decide +kernel
theorem dX5_comes_16 : decode cX5_comes 16 = .ok (.iconst 1, 1) := by decide +kernel
theorem dX5_comes_17 : decode cX5_comes 17 = .ok (.iadd, 1) := by decide +kernel
theorem dX5_comes_18 : decode cX5_comes 18 = .ok (.iastore, 1) := by decide +kernel
theorem dX5_comes_19 : decode cX5_comes 19 = .ok (.aload_n 0, 1) := by decide +kernel
theorem dX5_comes_20 : decode cX5_comes 20 = .ok (.getfield 64, 3) := by decide +kernel
theorem dX5_comes_23 : decode cX5_comes 23 = .ok (.sipush 150, 3) := by decide +kernel
theorem dX5_comes_26 : decode cX5_comes 26 = .ok (.iload_n 1, 1) := by decide +kernel
theorem dX5_comes_27 : decode cX5_comes 27 = .ok (.imul, 1) := by decide +kernel
theorem dX5_comes_28 : decode cX5_comes 28 = .ok (.aload_n 0, 1) := by decide +kernel
theorem dX5_comes_29 : decode cX5_comes 29 = .ok (.getfield 67, 3) := by decide +kernel
theorem dX5_comes_32 : decode cX5_comes 32 = .ok (.iload_n 1, 1) := by decide +kernel
theorem dX5_comes_33 : decode cX5_comes 33 = .ok (.iaload, 1) := by decide +kernel
theorem dX5_comes_34 : decode cX5_comes 34 = .ok (.iadd, 1) := by decide +kernel
theorem dX5_comes_35 : decode cX5_comes 35 = .ok (.iload_n 2, 1) := by decide +kernel
theorem dX5_comes_36 : decode cX5_comes 36 = .ok (.iastore, 1) := by decide +kernel
theorem dX5_comes_37 : decode cX5_comes 37 = .ok (.aload_n 0, 1) := by decide +kernel
theorem dX5_comes_38 : decode cX5_comes 38 = .ok (.getfield 67, 3) := by decide +kernel
theorem dX5_comes_41 : decode cX5_comes 41 = .ok (.iload_n 1, 1) := by decide +kernel
theorem dX5_comes_42 : decode cX5_comes 42 = .ok (.dup2, 1) := by decide +kernel
theorem dX5_comes_43 : decode cX5_comes 43 = .ok (.iaload, 1) := by decide +kernel
theorem dX5_comes_44 : decode cX5_comes 44 = .ok (.iconst 1, 1) := by decide +kernel
theorem dX5_comes_45 : decode cX5_comes 45 = .ok (.iadd, 1) := by decide +kernel
theorem dX5_comes_46 : decode cX5_comes 46 = .ok (.iastore, 1) := by decide +kernel
theorem dX5_comes_47 : decode cX5_comes 47 = .ok (.aload_n 0, 1) := by decide +kernel
theorem dX5_comes_48 : decode cX5_comes 48 = .ok (.iload_n 2, 1) := by decide +kernel
theorem dX5_comes_49 : decode cX5_comes 49 = .ok (.iload_n 1, 1) := by decide +kernel
theorem dX5_comes_50 : decode cX5_comes 50 = .ok (.invokevirtual 129, 3) := by decide +kernel
theorem dX5_comes_53 : decode cX5_comes 53 = .ok (.iload_n 3, 1) := by decide +kernel
theorem dX5_comes_54 : decode cX5_comes 54 = .ok (.ifCond .ne 16, 3) := by decide +kernel
theorem dX5_comes_57 : decode cX5_comes 57 = .ok (.aload_n 0, 1) := by decide +kernel
theorem dX5_comes_58 : decode cX5_comes 58 = .ok (.iconst 5, 1) := by decide +kernel
theorem dX5_comes_59 : decode cX5_comes 59 = .ok (.aload_n 0, 1) := by decide +kernel
theorem dX5_comes_60 : decode cX5_comes 60 = .ok (.getfield 24, 3) := by decide +kernel
theorem dX5_comes_63 : decode cX5_comes 63 = .ok (.iload_n 2, 1) := by decide +kernel
theorem dX5_comes_64 : decode cX5_comes 64 = .ok (.iaload, 1) := by decide +kernel
theorem dX5_comes_65 : decode cX5_comes 65 = .ok (.iload_n 1, 1) := by decide +kernel
theorem dX5_comes_66 : decode cX5_comes 66 = .ok (.iload_n 2, 1) := by decide +kernel
theorem dX5_comes_67 : decode cX5_comes 67 = .ok (.invokevirtual 133, 3) := by decide +kernel
theorem dX5_comes_70 : decode cX5_comes 70 = .ok (.return_, 1) := by decide +kernel
theorem dX5_becomes_0 : decode cX5_becomes 0 = .ok (.aload_n 0, 1) := by decide +kernel
theorem dX5_becomes_1 : decode cX5_becomes 1 = .ok (.getfield 24, 3) := by decide +kernel
theorem dX5_becomes_4 : decode cX5_becomes 4 = .ok (.iload_n 1, 1) := by decide +kernel
theorem dX5_becomes_5 : decode cX5_becomes 5 = .ok (.iaload, 1) := by decide +kernel
theorem dX5_becomes_6 : decode cX5_becomes 6 = .ok (.istore_n 2, 1) := by decide +kernel
theorem dX5_becomes_7 : decode cX5_becomes 7 = .ok (.aload_n 0, 1) := by decide +kernel
theorem dX5_becomes_8 : decode cX5_becomes 8 = .ok (.getfield 27, 3) := by decide +kernel
theorem dX5_becomes_11 : decode cX5_becomes 11 = .ok (.iload_n 1, 1) := by decide +kernel
theorem dX5_becomes_12 : decode cX5_becomes 12 = .ok (.iconst 2, 1) := by decide +kernel
theorem dX5_becomes_13 : decode cX5_becomes 13 = .ok (.iastore, 1) := by decide +kernel
theorem dX5_becomes_14 : decode cX5_becomes 14 = .ok (.aload_n 0, 1) := by decide +kernel
theorem dX5_becomes_15 : decode cX5_becomes 15 = .ok (.getfield 33, 3) := by decide +kernel
theorem dX5_becomes_18 : decode cX5_becomes 18 = .ok (.iload_n 1, 1) := by decide +kernel
theorem dX5_becomes_19 : decode cX5_becomes 19 = .ok (.aload_n 0, 1) := by decide +kernel
theorem dX5_becomes_20 : decode cX5_becomes 20 = .ok (.getfield 61, 3) := by decide +kernel
theorem dX5_becomes_23 : decode cX5_becomes 23 = .ok (.iconst 4, 1) := by decide +kernel
theorem dX5_becomes_24 : decode cX5_becomes 24 = .ok (.iload_n 2, 1) := by decide +kernel
theorem dX5_becomes_25 : decode cX5_becomes 25 = .ok (.imul, 1) := by decide +kernel
theorem dX5_becomes_26 : decode cX5_becomes 26 = .ok (.iload_n 2, 1) := by decide +kernel
theorem dX5_becomes_27 : decode cX5_becomes 27 = .ok (.iadd, 1) := by decide +kernel
theorem dX5_becomes_28 : decode cX5_becomes 28 = .ok (.iaload, 1) := by decide +kernel
theorem dX5_becomes_29 : decode cX5_becomes 29 = .ok (.iconst 1, 1) := by decide +kernel
theorem dX5_becomes_30 : decode cX5_becomes 30 = .ok (.iadd, 1) := by decide +kernel
theorem dX5_becomes_31 : decode cX5_becomes 31 = .ok (.iastore, 1) := by decide +kernel
theorem dX5_becomes_32 : decode cX5_becomes 32 = .ok (.aload_n 0, 1) := by decide +kernel
theorem dX5_becomes_33 : decode cX5_becomes 33 = .ok (.iload_n 2, 1) := by decide +kernel
theorem dX5_becomes_34 : decode cX5_becomes 34 = .ok (.iload_n 1, 1) := by decide +kernel
theorem dX5_becomes_35 : decode cX5_becomes 35 = .ok (.iconst 1, 1) := by decide +kernel
theorem dX5_becomes_36 : decode cX5_becomes 36 = .ok (.invokevirtual 137, 3) := by decide +kernel
theorem dX5_becomes_39 : decode cX5_becomes 39 = .ok (.iconst 0, 1) := by decide +kernel
theorem dX5_becomes_40 : decode cX5_becomes 40 = .ok (.istore_n 3, 1) := by decide +kernel
theorem dX5_becomes_41 : decode cX5_becomes 41 = .ok (.iload_n 3, 1) := by decide +kernel
theorem dX5_becomes_42 : decode cX5_becomes 42 = .ok (.aload_n 0, 1) := by decide +kernel
theorem dX5_becomes_43 : decode cX5_becomes 43 = .ok (.getfield 7, 3) := by decide +kernel
theorem dX5_becomes_46 : decode cX5_becomes 46 = .ok (.if_icmp .ge 22, 3) := by decide +kernel
theorem dX5_becomes_49 : decode cX5_becomes 49 = .ok (.iload_n 3, 1) := by decide +kernel
theorem dX5_becomes_50 : decode cX5_becomes 50 = .ok (.iload_n 2, 1) := by decide +kernel
theorem dX5_becomes_51 : decode cX5_becomes 51 = .ok (.if_icmp .eq 11, 3) := by decide +kernel
theorem dX5_becomes_54 : decode cX5_becomes 54 = .ok (.aload_n 0, 1) := by decide +kernel
theorem dX5_becomes_55 : decode cX5_becomes 55 = .ok (.iconst 4, 1) := by decide +kernel
theorem dX5_becomes_56 : decode cX5_becomes 56 = .ok (.iload_n 3, 1) := by decide +kernel
theorem dX5_becomes_57 : decode cX5_becomes 57 = .ok (.iload_n 2, 1) := by decide +kernel
theorem dX5_becomes_58 : decode cX5_becomes 58 = .ok (.iload_n 1, 1) := by decide +kernel
theorem dX5_becomes_59 : decode cX5_becomes 59 = .ok (.invokevirtual 133, 3) := by decide +kernel
theorem dX5_becomes_62 : decode cX5_becomes 62 = .ok (.iinc 3 1, 3) := by decide +kernel
theorem dX5_becomes_65 : decode cX5_becomes 65 = .ok (.goto (-24), 3) := by decide +kernel
theorem dX5_becomes_68 : decode cX5_becomes 68 = .ok (.return_, 1) := by decide +kernel
theorem dX5_commit_0 : decode cX5_commit 0 = .ok (.aload_n 0, 1) := by decide +kernel
theorem dX5_commit_1 : decode cX5_commit 1 = .ok (.iload_n 1, 1) := by decide +kernel
theorem dX5_commit_2 : decode cX5_commit 2 = .ok (.invokevirtual 103, 3) := by decide +kernel
theorem dX5_commit_5 : decode cX5_commit 5 = .ok (.ifCond .ne 5, 3) := by decide +kernel
theorem dX5_commit_8 : decode cX5_commit 8 = .ok (.iconst (-1), 1) := by decide +kernel
theorem dX5_commit_9 : decode cX5_commit 9 = .ok (.ireturn, 1) := by decide +kernel
theorem dX5_commit_10 : decode cX5_commit 10 = .ok (.aload_n 0, 1) := by decide +kernel
theorem dX5_commit_11 : decode cX5_commit 11 = .ok (.getfield 27, 3) := by decide +kernel
theorem dX5_commit_14 : decode cX5_commit 14 = .ok (.iload_n 1, 1) := by decide +kernel
theorem dX5_commit_15 : decode cX5_commit 15 = .ok (.iaload, 1) := by decide +kernel
theorem dX5_commit_16 : decode cX5_commit 16 = .ok (.ifCond .eq 6, 3) := by decide +kernel
theorem dX5_commit_19 : decode cX5_commit 19 = .ok (.bipush (-2), 2) := by decide +kernel
theorem dX5_commit_21 : decode cX5_commit 21 = .ok (.ireturn, 1) := by decide +kernel
theorem dX5_commit_22 : decode cX5_commit 22 = .ok (.aload_n 0, 1) := by decide +kernel
theorem dX5_commit_23 : decode cX5_commit 23 = .ok (.getfield 24, 3) := by decide +kernel
theorem dX5_commit_26 : decode cX5_commit 26 = .ok (.iload_n 1, 1) := by decide +kernel
theorem dX5_commit_27 : decode cX5_commit 27 = .ok (.iaload, 1) := by decide +kernel
theorem dX5_commit_28 : decode cX5_commit 28 = .ok (.istore_n 2, 1) := by decide +kernel
theorem dX5_commit_29 : decode cX5_commit 29 = .ok (.aload_n 0, 1) := by decide +kernel
theorem dX5_commit_30 : decode cX5_commit 30 = .ok (.iload_n 1, 1) := by decide +kernel
theorem dX5_commit_31 : decode cX5_commit 31 = .ok (.invokevirtual 118, 3) := by decide +kernel
theorem dX5_commit_34 : decode cX5_commit 34 = .ok (.ifCond .le 7, 3) := by decide +kernel
theorem dX5_commit_37 : decode cX5_commit 37 = .ok (.iconst 1, 1) := by decide +kernel
theorem dX5_commit_38 : decode cX5_commit 38 = .ok (.goto 4, 3) := by decide +kernel
theorem dX5_commit_41 : decode cX5_commit 41 = .ok (.iconst 0, 1) := by decide +kernel
theorem dX5_commit_42 : decode cX5_commit 42 = .ok (.istore_n 3, 1) := by decide +kernel
theorem dX5_commit_43 : decode cX5_commit 43 = .ok (.iconst 0, 1) := by decide +kernel
theorem dX5_commit_44 : decode cX5_commit 44 = .ok (.istore 4, 2) := by decide +kernel
theorem dX5_commit_46 : decode cX5_commit 46 = .ok (.iconst 0, 1) := by decide +kernel
theorem dX5_commit_47 : decode cX5_commit 47 = .ok (.istore 5, 2) := by decide +kernel
theorem dX5_commit_49 : decode cX5_commit 49 = .ok (.iload 5, 2) := by decide +kernel
theorem dX5_commit_51 : decode cX5_commit 51 = .ok (.aload_n 0, 1) := by decide +kernel
theorem dX5_commit_52 : decode cX5_commit 52 = .ok (.getfield 89, 3) := by decide +kernel
theorem dX5_commit_55 : decode cX5_commit 55 = .ok (.if_icmp .ge 72, 3) := by decide +kernel
theorem dX5_commit_58 : decode cX5_commit 58 = .ok (.iload_n 3, 1) := by decide +kernel
theorem dX5_commit_59 : decode cX5_commit 59 = .ok (.ifCond .ne 18, 3) := by decide +kernel
theorem dX5_commit_62 : decode cX5_commit 62 = .ok (.aload_n 0, 1) := by decide +kernel
theorem dX5_commit_63 : decode cX5_commit 63 = .ok (.getfield 55, 3) := by decide +kernel
theorem dX5_commit_66 : decode cX5_commit 66 = .ok (.bipush 12, 2) := by decide +kernel
theorem dX5_commit_68 : decode cX5_commit 68 = .ok (.iload_n 1, 1) := by decide +kernel
theorem dX5_commit_69 : decode cX5_commit 69 = .ok (.imul, 1) := by decide +kernel
theorem dX5_commit_70 : decode cX5_commit 70 = .ok (.iload 5, 2) := by decide +kernel
theorem dX5_commit_72 : decode cX5_commit 72 = .ok (.iadd, 1) := by decide +kernel
theorem dX5_commit_73 : decode cX5_commit 73 = .ok (.baload, 1) := by decide +kernel
theorem dX5_commit_74 : decode cX5_commit 74 = .ok (.ifCond .eq 7, 3) := by decide +kernel
theorem dX5_commit_77 : decode cX5_commit 77 = .ok (.iconst 1, 1) := by decide +kernel
theorem dX5_commit_78 : decode cX5_commit 78 = .ok (.goto 4, 3) := by decide +kernel
theorem dX5_commit_81 : decode cX5_commit 81 = .ok (.iconst 0, 1) := by decide +kernel
theorem dX5_commit_82 : decode cX5_commit 82 = .ok (.istore_n 3, 1) := by decide +kernel
theorem dX5_commit_83 : decode cX5_commit 83 = .ok (.iload 4, 2) := by decide +kernel
theorem dX5_commit_85 : decode cX5_commit 85 = .ok (.ifCond .ne 29, 3) := by decide +kernel
theorem dX5_commit_88 : decode cX5_commit 88 = .ok (.aload_n 0, 1) := by decide +kernel
theorem dX5_commit_89 : decode cX5_commit 89 = .ok (.getfield 48, 3) := by decide +kernel
theorem dX5_commit_92 : decode cX5_commit 92 = .ok (.bipush 12, 2) := by decide +kernel
theorem dX5_commit_94 : decode cX5_commit 94 = .ok (.iload_n 1, 1) := by decide +kernel
theorem dX5_commit_95 : decode cX5_commit 95 = .ok (.imul, 1) := by decide +kernel
theorem dX5_commit_96 : decode cX5_commit 96 = .ok (.iload 5, 2) := by decide +kernel
theorem dX5_commit_98 : decode cX5_commit 98 = .ok (.iadd, 1) := by decide +kernel
theorem dX5_commit_99 : decode cX5_commit 99 = .ok (.baload, 1) := by decide +kernel
theorem dX5_commit_100 : decode cX5_commit 100 = .ok (.ifCond .eq 18, 3) := by decide +kernel
theorem dX5_commit_103 : decode cX5_commit 103 = .ok (.aload_n 0, 1) := by decide +kernel
theorem dX5_commit_104 : decode cX5_commit 104 = .ok (.getfield 16, 3) := by decide +kernel
theorem dX5_commit_107 : decode cX5_commit 107 = .ok (.iload 5, 2) := by decide +kernel
theorem dX5_commit_109 : decode cX5_commit 109 = .ok (.iaload, 1) := by decide +kernel
theorem dX5_commit_110 : decode cX5_commit 110 = .ok (.iload_n 2, 1) := by decide +kernel
theorem dX5_commit_111 : decode cX5_commit 111 = .ok (.if_icmp .eq 7, 3) := by decide +kernel
theorem dX5_commit_114 : decode cX5_commit 114 = .ok (.iconst 1, 1) := by decide +kernel
theorem dX5_commit_115 : decode cX5_commit 115 = .ok (.goto 4, 3) := by decide +kernel
theorem dX5_commit_118 : decode cX5_commit 118 = .ok (.iconst 0, 1) := by decide +kernel
theorem dX5_commit_119 : decode cX5_commit 119 = .ok (.istore 4, 2) := by decide +kernel
theorem dX5_commit_121 : decode cX5_commit 121 = .ok (.iinc 5 1, 3) := by decide +kernel
theorem dX5_commit_124 : decode cX5_commit 124 = .ok (.goto (-75), 3) := by decide +kernel
theorem dX5_commit_127 : decode cX5_commit 127 = .ok (.iload_n 3, 1) := by decide +kernel
theorem dX5_commit_128 : decode cX5_commit 128 = .ok (.ifCond .ne 13, 3) := by decide +kernel
theorem dX5_commit_131 : decode cX5_commit 131 = .ok (.aload_n 0, 1) := by decide +kernel
theorem dX5_commit_132 : decode cX5_commit 132 = .ok (.getfield 27, 3) := by decide +kernel
theorem dX5_commit_135 : decode cX5_commit 135 = .ok (.iload_n 1, 1) := by decide +kernel
theorem dX5_commit_136 : decode cX5_commit 136 = .ok (.iconst 2, 1) := by decide +kernel
theorem dX5_commit_137 : decode cX5_commit 137 = .ok (.iastore, 1) := by decide +kernel
theorem dX5_commit_138 : decode cX5_commit 138 = .ok (.goto 101, 3) := by decide +kernel
theorem dX5_commit_141 : decode cX5_commit 141 = .ok (.aload_n 0, 1) := by decide +kernel
theorem dX5_commit_142 : decode cX5_commit 142 = .ok (.iload_n 1, 1) := by decide +kernel
theorem dX5_commit_143 : decode cX5_commit 143 = .ok (.iload_n 2, 1) := by decide +kernel
theorem dX5_commit_144 : decode cX5_commit 144 = .ok (.invokevirtual 141, 3) := by decide +kernel
theorem dX5_commit_147 : decode cX5_commit 147 = .ok (.ifCond .ne 13, 3) := by decide +kernel
theorem dX5_commit_150 : decode cX5_commit 150 = .ok (.aload_n 0, 1) := by decide +kernel
theorem dX5_commit_151 : decode cX5_commit 151 = .ok (.getfield 27, 3) := by decide +kernel
theorem dX5_commit_154 : decode cX5_commit 154 = .ok (.iload_n 1, 1) := by decide +kernel
theorem dX5_commit_155 : decode cX5_commit 155 = .ok (.iconst 3, 1) := by decide +kernel
theorem dX5_commit_156 : decode cX5_commit 156 = .ok (.iastore, 1) := by decide +kernel
theorem dX5_commit_157 : decode cX5_commit 157 = .ok (.goto 82, 3) := by decide +kernel
theorem dX5_commit_160 : decode cX5_commit 160 = .ok (.iload 4, 2) := by decide +kernel
theorem dX5_commit_162 : decode cX5_commit 162 = .ok (.ifCond .ne 11, 3) := by decide +kernel
theorem dX5_commit_165 : decode cX5_commit 165 = .ok (.aload_n 0, 1) := by decide +kernel
theorem dX5_commit_166 : decode cX5_commit 166 = .ok (.iload_n 1, 1) := by decide +kernel
theorem dX5_commit_167 : decode cX5_commit 167 = .ok (.invokevirtual 144, 3) := by decide +kernel
theorem dX5_commit_170 : decode cX5_commit 170 = .ok (.goto 69, 3) := by decide +kernel
theorem dX5_commit_173 : decode cX5_commit 173 = .ok (.aload_n 0, 1) := by decide +kernel
theorem dX5_commit_174 : decode cX5_commit 174 = .ok (.iload_n 1, 1) := by decide +kernel
theorem dX5_commit_175 : decode cX5_commit 175 = .ok (.iload_n 2, 1) := by decide +kernel
theorem dX5_commit_176 : decode cX5_commit 176 = .ok (.invokevirtual 148, 3) := by decide +kernel
theorem dX5_commit_179 : decode cX5_commit 179 = .ok (.aload_n 0, 1) := by decide +kernel
theorem dX5_commit_180 : decode cX5_commit 180 = .ok (.getfield 27, 3) := by decide +kernel
theorem dX5_commit_183 : decode cX5_commit 183 = .ok (.iload_n 1, 1) := by decide +kernel
theorem dX5_commit_184 : decode cX5_commit 184 = .ok (.iconst 1, 1) := by decide +kernel
theorem dX5_commit_185 : decode cX5_commit 185 = .ok (.iastore, 1) := by decide +kernel
theorem dX5_commit_186 : decode cX5_commit 186 = .ok (.iconst 0, 1) := by decide +kernel
theorem dX5_commit_187 : decode cX5_commit 187 = .ok (.istore 5, 2) := by decide +kernel
theorem dX5_commit_189 : decode cX5_commit 189 = .ok (.iload 5, 2) := by decide +kernel
theorem dX5_commit_191 : decode cX5_commit 191 = .ok (.aload_n 0, 1) := by decide +kernel
theorem dX5_commit_192 : decode cX5_commit 192 = .ok (.getfield 7, 3) := by decide +kernel
theorem dX5_commit_195 : decode cX5_commit 195 = .ok (.if_icmp .ge 44, 3) := by decide +kernel
theorem dX5_commit_198 : decode cX5_commit 198 = .ok (.iload 5, 2) := by decide +kernel
theorem dX5_commit_200 : decode cX5_commit 200 = .ok (.iload_n 2, 1) := by decide +kernel
theorem dX5_commit_201 : decode cX5_commit 201 = .ok (.if_icmp .eq 32, 3) := by decide +kernel
theorem dX5_commit_204 : decode cX5_commit 204 = .ok (.aload_n 0, 1) := by decide +kernel
theorem dX5_commit_205 : decode cX5_commit 205 = .ok (.iload_n 1, 1) := by decide +kernel
theorem dX5_commit_206 : decode cX5_commit 206 = .ok (.iload 5, 2) := by decide +kernel
theorem dX5_commit_208 : decode cX5_commit 208 = .ok (.invokevirtual 151, 3) := by decide +kernel
theorem dX5_commit_211 : decode cX5_commit 211 = .ok (.ifCond .eq 22, 3) := by decide +kernel
theorem dX5_commit_214 : decode cX5_commit 214 = .ok (.aload_n 0, 1) := by decide +kernel
theorem dX5_commit_215 : decode cX5_commit 215 = .ok (.iconst 0, 1) := by decide +kernel
theorem dX5_commit_216 : decode cX5_commit 216 = .ok (.iload 5, 2) := by decide +kernel
theorem dX5_commit_218 : decode cX5_commit 218 = .ok (.iload_n 2, 1) := by decide +kernel
theorem dX5_commit_219 : decode cX5_commit 219 = .ok (.iload_n 1, 1) := by decide +kernel
theorem dX5_commit_220 : decode cX5_commit 220 = .ok (.invokevirtual 133, 3) := by decide +kernel
theorem dX5_commit_223 : decode cX5_commit 223 = .ok (.aload_n 0, 1) := by decide +kernel
theorem dX5_commit_224 : decode cX5_commit 224 = .ok (.getfield 42, 3) := by decide +kernel
theorem dX5_commit_227 : decode cX5_commit 227 = .ok (.iload_n 1, 1) := by decide +kernel
theorem dX5_commit_228 : decode cX5_commit 228 = .ok (.dup2, 1) := by decide +kernel
theorem dX5_commit_229 : decode cX5_commit 229 = .ok (.iaload, 1) := by decide +kernel
theorem dX5_commit_230 : decode cX5_commit 230 = .ok (.iconst 1, 1) := by decide +kernel
theorem dX5_commit_231 : decode cX5_commit 231 = .ok (.iadd, 1) := by decide +kernel
theorem dX5_commit_232 : decode cX5_commit 232 = .ok (.iastore, 1) := by decide +kernel
theorem dX5_commit_233 : decode cX5_commit 233 = .ok (.iinc 5 1, 3) := by decide +kernel
theorem dX5_commit_236 : decode cX5_commit 236 = .ok (.goto (-47), 3) := by decide +kernel
theorem dX5_commit_239 : decode cX5_commit 239 = .ok (.aload_n 0, 1) := by decide +kernel
theorem dX5_commit_240 : decode cX5_commit 240 = .ok (.getfield 27, 3) := by decide +kernel
theorem dX5_commit_243 : decode cX5_commit 243 = .ok (.iload_n 1, 1) := by decide +kernel
theorem dX5_commit_244 : decode cX5_commit 244 = .ok (.iaload, 1) := by decide +kernel
theorem dX5_commit_245 : decode cX5_commit 245 = .ok (.ireturn, 1) := by decide +kernel
theorem dX5_abort_0 : decode cX5_abort 0 = .ok (.aload_n 0, 1) := by decide +kernel
theorem dX5_abort_1 : decode cX5_abort 1 = .ok (.iload_n 1, 1) := by decide +kernel
theorem dX5_abort_2 : decode cX5_abort 2 = .ok (.invokevirtual 103, 3) := by decide +kernel
theorem dX5_abort_5 : decode cX5_abort 5 = .ok (.ifCond .ne 5, 3) := by decide +kernel
theorem dX5_abort_8 : decode cX5_abort 8 = .ok (.iconst (-1), 1) := by decide +kernel
theorem dX5_abort_9 : decode cX5_abort 9 = .ok (.ireturn, 1) := by decide +kernel
theorem dX5_abort_10 : decode cX5_abort 10 = .ok (.aload_n 0, 1) := by decide +kernel
theorem dX5_abort_11 : decode cX5_abort 11 = .ok (.getfield 27, 3) := by decide +kernel
theorem dX5_abort_14 : decode cX5_abort 14 = .ok (.iload_n 1, 1) := by decide +kernel
theorem dX5_abort_15 : decode cX5_abort 15 = .ok (.iaload, 1) := by decide +kernel
theorem dX5_abort_16 : decode cX5_abort 16 = .ok (.ifCond .eq 6, 3) := by decide +kernel
theorem dX5_abort_19 : decode cX5_abort 19 = .ok (.bipush (-2), 2) := by decide +kernel
theorem dX5_abort_21 : decode cX5_abort 21 = .ok (.ireturn, 1) := by decide +kernel
theorem dX5_abort_22 : decode cX5_abort 22 = .ok (.aload_n 0, 1) := by decide +kernel
theorem dX5_abort_23 : decode cX5_abort 23 = .ok (.getfield 27, 3) := by decide +kernel
theorem dX5_abort_26 : decode cX5_abort 26 = .ok (.iload_n 1, 1) := by decide +kernel
theorem dX5_abort_27 : decode cX5_abort 27 = .ok (.iconst 3, 1) := by decide +kernel
theorem dX5_abort_28 : decode cX5_abort 28 = .ok (.iastore, 1) := by decide +kernel
theorem dX5_abort_29 : decode cX5_abort 29 = .ok (.iconst 1, 1) := by decide +kernel
theorem dX5_abort_30 : decode cX5_abort 30 = .ok (.ireturn, 1) := by decide +kernel
theorem dX5_isMessage_0 : decode cX5_isMessage 0 = .ok (.iload_n 1, 1) := by decide +kernel
theorem dX5_isMessage_1 : decode cX5_isMessage 1 = .ok (.i2l, 1) := by decide +kernel
theorem dX5_isMessage_2 : decode cX5_isMessage 2 = .ok (.lconst 0, 1) := by decide +kernel
theorem dX5_isMessage_3 : decode cX5_isMessage 3 = .ok (.aload_n 0, 1) := by decide +kernel
theorem dX5_isMessage_4 : decode cX5_isMessage 4 = .ok (.getfield 122, 3) := by decide +kernel
theorem dX5_isMessage_7 : decode cX5_isMessage 7 = .ok (.iconst 1, 1) := by decide +kernel
theorem dX5_isMessage_8 : decode cX5_isMessage 8 = .ok (.isub, 1) := by decide +kernel
theorem dX5_isMessage_9 : decode cX5_isMessage 9 = .ok (.i2l, 1) := by decide +kernel
theorem dX5_isMessage_10 : decode cX5_isMessage 10 = .ok (.invokestatic 85, 3) := by decide +kernel
theorem dX5_isMessage_13 : decode cX5_isMessage 13 = .ok (.ireturn, 1) := by decide +kernel
theorem dX5_canCome_0 : decode cX5_canCome 0 = .ok (.aload_n 0, 1) := by decide +kernel
theorem dX5_canCome_1 : decode cX5_canCome 1 = .ok (.getfield 73, 3) := by decide +kernel
theorem dX5_canCome_4 : decode cX5_canCome 4 = .ok (.iload_n 1, 1) := by decide +kernel
theorem dX5_canCome_5 : decode cX5_canCome 5 = .ok (.iaload, 1) := by decide +kernel
theorem dX5_canCome_6 : decode cX5_canCome 6 = .ok (.iconst 4, 1) := by decide +kernel
theorem dX5_canCome_7 : decode cX5_canCome 7 = .ok (.if_icmp .eq 5, 3) := by decide +kernel
theorem dX5_canCome_10 : decode cX5_canCome 10 = .ok (.iconst 1, 1) := by decide +kernel
theorem dX5_canCome_11 : decode cX5_canCome 11 = .ok (.ireturn, 1) := by decide +kernel
theorem dX5_canCome_12 : decode cX5_canCome 12 = .ok (.aload_n 0, 1) := by decide +kernel
theorem dX5_canCome_13 : decode cX5_canCome 13 = .ok (.getfield 76, 3) := by decide +kernel
theorem dX5_canCome_16 : decode cX5_canCome 16 = .ok (.iload_n 1, 1) := by decide +kernel
theorem dX5_canCome_17 : decode cX5_canCome 17 = .ok (.iaload, 1) := by decide +kernel
theorem dX5_canCome_18 : decode cX5_canCome 18 = .ok (.istore_n 2, 1) := by decide +kernel
theorem dX5_canCome_19 : decode cX5_canCome 19 = .ok (.aload_n 0, 1) := by decide +kernel
theorem dX5_canCome_20 : decode cX5_canCome 20 = .ok (.getfield 82, 3) := by decide +kernel
theorem dX5_canCome_23 : decode cX5_canCome 23 = .ok (.iload_n 1, 1) := by decide +kernel
theorem dX5_canCome_24 : decode cX5_canCome 24 = .ok (.iaload, 1) := by decide +kernel
theorem dX5_canCome_25 : decode cX5_canCome 25 = .ok (.istore_n 3, 1) := by decide +kernel
theorem dX5_canCome_26 : decode cX5_canCome 26 = .ok (.aload_n 0, 1) := by decide +kernel
theorem dX5_canCome_27 : decode cX5_canCome 27 = .ok (.getfield 61, 3) := by decide +kernel
theorem dX5_canCome_30 : decode cX5_canCome 30 = .ok (.iconst 4, 1) := by decide +kernel
theorem dX5_canCome_31 : decode cX5_canCome 31 = .ok (.iload_n 2, 1) := by decide +kernel
theorem dX5_canCome_32 : decode cX5_canCome 32 = .ok (.imul, 1) := by decide +kernel
theorem dX5_canCome_33 : decode cX5_canCome 33 = .ok (.aload_n 0, 1) := by decide +kernel
theorem dX5_canCome_34 : decode cX5_canCome 34 = .ok (.getfield 24, 3) := by decide +kernel
theorem dX5_canCome_37 : decode cX5_canCome 37 = .ok (.iload_n 3, 1) := by decide +kernel
theorem dX5_canCome_38 : decode cX5_canCome 38 = .ok (.iaload, 1) := by decide +kernel
theorem dX5_canCome_39 : decode cX5_canCome 39 = .ok (.iadd, 1) := by decide +kernel
theorem dX5_canCome_40 : decode cX5_canCome 40 = .ok (.iaload, 1) := by decide +kernel
theorem dX5_canCome_41 : decode cX5_canCome 41 = .ok (.aload_n 0, 1) := by decide +kernel
theorem dX5_canCome_42 : decode cX5_canCome 42 = .ok (.getfield 33, 3) := by decide +kernel
theorem dX5_canCome_45 : decode cX5_canCome 45 = .ok (.iload_n 3, 1) := by decide +kernel
theorem dX5_canCome_46 : decode cX5_canCome 46 = .ok (.iaload, 1) := by decide +kernel
theorem dX5_canCome_47 : decode cX5_canCome 47 = .ok (.iconst 1, 1) := by decide +kernel
theorem dX5_canCome_48 : decode cX5_canCome 48 = .ok (.isub, 1) := by decide +kernel
theorem dX5_canCome_49 : decode cX5_canCome 49 = .ok (.if_icmp .ne 7, 3) := by decide +kernel
theorem dX5_canCome_52 : decode cX5_canCome 52 = .ok (.iconst 1, 1) := by decide +kernel
theorem dX5_canCome_53 : decode cX5_canCome 53 = .ok (.goto 4, 3) := by decide +kernel
theorem dX5_canCome_56 : decode cX5_canCome 56 = .ok (.iconst 0, 1) := by decide +kernel
theorem dX5_canCome_57 : decode cX5_canCome 57 = .ok (.istore 4, 2) := by decide +kernel
theorem dX5_canCome_59 : decode cX5_canCome 59 = .ok (.iconst 0, 1) := by decide +kernel
theorem dX5_canCome_60 : decode cX5_canCome 60 = .ok (.istore 5, 2) := by decide +kernel
theorem dX5_canCome_62 : decode cX5_canCome 62 = .ok (.iload 5, 2) := by decide +kernel
theorem dX5_canCome_64 : decode cX5_canCome 64 = .ok (.aload_n 0, 1) := by decide +kernel
theorem dX5_canCome_65 : decode cX5_canCome 65 = .ok (.getfield 7, 3) := by decide +kernel
theorem dX5_canCome_68 : decode cX5_canCome 68 = .ok (.if_icmp .ge 46, 3) := by decide +kernel
theorem dX5_canCome_71 : decode cX5_canCome 71 = .ok (.iload 4, 2) := by decide +kernel
theorem dX5_canCome_73 : decode cX5_canCome 73 = .ok (.ifCond .eq 32, 3) := by decide +kernel
theorem dX5_canCome_76 : decode cX5_canCome 76 = .ok (.aload_n 0, 1) := by decide +kernel
theorem dX5_canCome_77 : decode cX5_canCome 77 = .ok (.getfield 61, 3) := by decide +kernel
theorem dX5_canCome_80 : decode cX5_canCome 80 = .ok (.iconst 4, 1) := by decide +kernel
theorem dX5_canCome_81 : decode cX5_canCome 81 = .ok (.iload_n 2, 1) := by decide +kernel
theorem dX5_canCome_82 : decode cX5_canCome 82 = .ok (.imul, 1) := by decide +kernel
theorem dX5_canCome_83 : decode cX5_canCome 83 = .ok (.iload 5, 2) := by decide +kernel
theorem dX5_canCome_85 : decode cX5_canCome 85 = .ok (.iadd, 1) := by decide +kernel
theorem dX5_canCome_86 : decode cX5_canCome 86 = .ok (.iaload, 1) := by decide +kernel
theorem dX5_canCome_87 : decode cX5_canCome 87 = .ok (.aload_n 0, 1) := by decide +kernel
theorem dX5_canCome_88 : decode cX5_canCome 88 = .ok (.getfield 30, 3) := by decide +kernel
theorem dX5_canCome_91 : decode cX5_canCome 91 = .ok (.iconst 4, 1) := by decide +kernel
theorem dX5_canCome_92 : decode cX5_canCome 92 = .ok (.iload_n 3, 1) := by decide +kernel
theorem dX5_canCome_93 : decode cX5_canCome 93 = .ok (.imul, 1) := by decide +kernel
theorem dX5_canCome_94 : decode cX5_canCome 94 = .ok (.iload 5, 2) := by decide +kernel
theorem dX5_canCome_96 : decode cX5_canCome 96 = .ok (.iadd, 1) := by decide +kernel
theorem dX5_canCome_97 : decode cX5_canCome 97 = .ok (.iaload, 1) := by decide +kernel
theorem dX5_canCome_98 : decode cX5_canCome 98 = .ok (.if_icmp .lt 7, 3) := by decide +kernel
theorem dX5_canCome_101 : decode cX5_canCome 101 = .ok (.iconst 1, 1) := by decide +kernel
theorem dX5_canCome_102 : decode cX5_canCome 102 = .ok (.goto 4, 3) := by decide +kernel
theorem dX5_canCome_105 : decode cX5_canCome 105 = .ok (.iconst 0, 1) := by decide +kernel
theorem dX5_canCome_106 : decode cX5_canCome 106 = .ok (.istore 4, 2) := by decide +kernel
theorem dX5_canCome_108 : decode cX5_canCome 108 = .ok (.iinc 5 1, 3) := by decide +kernel
theorem dX5_canCome_111 : decode cX5_canCome 111 = .ok (.goto (-49), 3) := by decide +kernel
theorem dX5_canCome_114 : decode cX5_canCome 114 = .ok (.iload 4, 2) := by decide +kernel
theorem dX5_canCome_116 : decode cX5_canCome 116 = .ok (.ireturn, 1) := by decide +kernel
theorem dX5_comesNow_0 : decode cX5_comesNow 0 = .ok (.aload_n 0, 1) := by decide +kernel
theorem dX5_comesNow_1 : decode cX5_comesNow 1 = .ok (.getfield 73, 3) := by decide +kernel
theorem dX5_comesNow_4 : decode cX5_comesNow 4 = .ok (.iload_n 1, 1) := by decide +kernel
theorem dX5_comesNow_5 : decode cX5_comesNow 5 = .ok (.iaload, 1) := by decide +kernel
theorem dX5_comesNow_6 : decode cX5_comesNow 6 = .ok (.istore_n 2, 1) := by decide +kernel
theorem dX5_comesNow_7 : decode cX5_comesNow 7 = .ok (.aload_n 0, 1) := by decide +kernel
theorem dX5_comesNow_8 : decode cX5_comesNow 8 = .ok (.getfield 76, 3) := by decide +kernel
theorem dX5_comesNow_11 : decode cX5_comesNow 11 = .ok (.iload_n 1, 1) := by decide +kernel
theorem dX5_comesNow_12 : decode cX5_comesNow 12 = .ok (.iaload, 1) := by decide +kernel
theorem dX5_comesNow_13 : decode cX5_comesNow 13 = .ok (.istore_n 3, 1) := by decide +kernel
theorem dX5_comesNow_14 : decode cX5_comesNow 14 = .ok (.aload_n 0, 1) := by decide +kernel
theorem dX5_comesNow_15 : decode cX5_comesNow 15 = .ok (.getfield 79, 3) := by decide +kernel
theorem dX5_comesNow_18 : decode cX5_comesNow 18 = .ok (.iload_n 1, 1) := by decide +kernel
theorem dX5_comesNow_19 : decode cX5_comesNow 19 = .ok (.iaload, 1) := by decide +kernel
theorem dX5_comesNow_20 : decode cX5_comesNow 20 = .ok (.istore 4, 2) := by decide +kernel
theorem dX5_comesNow_22 : decode cX5_comesNow 22 = .ok (.aload_n 0, 1) := by decide +kernel
theorem dX5_comesNow_23 : decode cX5_comesNow 23 = .ok (.getfield 82, 3) := by decide +kernel
theorem dX5_comesNow_26 : decode cX5_comesNow 26 = .ok (.iload_n 1, 1) := by decide +kernel
theorem dX5_comesNow_27 : decode cX5_comesNow 27 = .ok (.iaload, 1) := by decide +kernel
theorem dX5_comesNow_28 : decode cX5_comesNow 28 = .ok (.istore 5, 2) := by decide +kernel
theorem dX5_comesNow_30 : decode cX5_comesNow 30 = .ok (.aload_n 0, 1) := by decide +kernel
theorem dX5_comesNow_31 : decode cX5_comesNow 31 = .ok (.dup, 1) := by decide +kernel
theorem dX5_comesNow_32 : decode cX5_comesNow 32 = .ok (.getfield 122, 3) := by decide +kernel
theorem dX5_comesNow_35 : decode cX5_comesNow 35 = .ok (.iconst 1, 1) := by decide +kernel
theorem dX5_comesNow_36 : decode cX5_comesNow 36 = .ok (.isub, 1) := by decide +kernel
theorem dX5_comesNow_37 : decode cX5_comesNow 37 = .ok (.putfield 122, 3) := by decide +kernel
theorem dX5_comesNow_40 : decode cX5_comesNow 40 = .ok (.iload_n 1, 1) := by decide +kernel
theorem dX5_comesNow_41 : decode cX5_comesNow 41 = .ok (.istore 6, 2) := by decide +kernel
theorem dX5_comesNow_43 : decode cX5_comesNow 43 = .ok (.iload 6, 2) := by decide +kernel
theorem dX5_comesNow_45 : decode cX5_comesNow 45 = .ok (.aload_n 0, 1) := by decide +kernel
theorem dX5_comesNow_46 : decode cX5_comesNow 46 = .ok (.getfield 122, 3) := by decide +kernel
theorem dX5_comesNow_49 : decode cX5_comesNow 49 = .ok (.if_icmp .ge 73, 3) := by decide +kernel
theorem dX5_comesNow_52 : decode cX5_comesNow 52 = .ok (.aload_n 0, 1) := by decide +kernel
theorem dX5_comesNow_53 : decode cX5_comesNow 53 = .ok (.getfield 73, 3) := by decide +kernel
theorem dX5_comesNow_56 : decode cX5_comesNow 56 = .ok (.iload 6, 2) := by decide +kernel
theorem dX5_comesNow_58 : decode cX5_comesNow 58 = .ok (.aload_n 0, 1) := by decide +kernel
theorem dX5_comesNow_59 : decode cX5_comesNow 59 = .ok (.getfield 73, 3) := by decide +kernel
theorem dX5_comesNow_62 : decode cX5_comesNow 62 = .ok (.iload 6, 2) := by decide +kernel
theorem dX5_comesNow_64 : decode cX5_comesNow 64 = .ok (.iconst 1, 1) := by decide +kernel
theorem dX5_comesNow_65 : decode cX5_comesNow 65 = .ok (.iadd, 1) := by decide +kernel
theorem dX5_comesNow_66 : decode cX5_comesNow 66 = .ok (.iaload, 1) := by decide +kernel
theorem dX5_comesNow_67 : decode cX5_comesNow 67 = .ok (.iastore, 1) := by decide +kernel
theorem dX5_comesNow_68 : decode cX5_comesNow 68 = .ok (.aload_n 0, 1) := by decide +kernel
theorem dX5_comesNow_69 : decode cX5_comesNow 69 = .ok (.getfield 76, 3) := by decide +kernel
theorem dX5_comesNow_72 : decode cX5_comesNow 72 = .ok (.iload 6, 2) := by decide +kernel
theorem dX5_comesNow_74 : decode cX5_comesNow 74 = .ok (.aload_n 0, 1) := by decide +kernel
theorem dX5_comesNow_75 : decode cX5_comesNow 75 = .ok (.getfield 76, 3) := by decide +kernel
theorem dX5_comesNow_78 : decode cX5_comesNow 78 = .ok (.iload 6, 2) := by decide +kernel
theorem dX5_comesNow_80 : decode cX5_comesNow 80 = .ok (.iconst 1, 1) := by decide +kernel
theorem dX5_comesNow_81 : decode cX5_comesNow 81 = .ok (.iadd, 1) := by decide +kernel
theorem dX5_comesNow_82 : decode cX5_comesNow 82 = .ok (.iaload, 1) := by decide +kernel
theorem dX5_comesNow_83 : decode cX5_comesNow 83 = .ok (.iastore, 1) := by decide +kernel
theorem dX5_comesNow_84 : decode cX5_comesNow 84 = .ok (.aload_n 0, 1) := by decide +kernel
theorem dX5_comesNow_85 : decode cX5_comesNow 85 = .ok (.getfield 79, 3) := by decide +kernel
theorem dX5_comesNow_88 : decode cX5_comesNow 88 = .ok (.iload 6, 2) := by decide +kernel
theorem dX5_comesNow_90 : decode cX5_comesNow 90 = .ok (.aload_n 0, 1) := by decide +kernel
theorem dX5_comesNow_91 : decode cX5_comesNow 91 = .ok (.getfield 79, 3) := by decide +kernel
theorem dX5_comesNow_94 : decode cX5_comesNow 94 = .ok (.iload 6, 2) := by decide +kernel
theorem dX5_comesNow_96 : decode cX5_comesNow 96 = .ok (.iconst 1, 1) := by decide +kernel
theorem dX5_comesNow_97 : decode cX5_comesNow 97 = .ok (.iadd, 1) := by decide +kernel
theorem dX5_comesNow_98 : decode cX5_comesNow 98 = .ok (.iaload, 1) := by decide +kernel
theorem dX5_comesNow_99 : decode cX5_comesNow 99 = .ok (.iastore, 1) := by decide +kernel
theorem dX5_comesNow_100 : decode cX5_comesNow 100 = .ok (.aload_n 0, 1) := by decide +kernel
theorem dX5_comesNow_101 : decode cX5_comesNow 101 = .ok (.getfield 82, 3) := by decide +kernel
theorem dX5_comesNow_104 : decode cX5_comesNow 104 = .ok (.iload 6, 2) := by decide +kernel
theorem dX5_comesNow_106 : decode cX5_comesNow 106 = .ok (.aload_n 0, 1) := by decide +kernel
theorem dX5_comesNow_107 : decode cX5_comesNow 107 = .ok (.getfield 82, 3) := by decide +kernel
theorem dX5_comesNow_110 : decode cX5_comesNow 110 = .ok (.iload 6, 2) := by decide +kernel
theorem dX5_comesNow_112 : decode cX5_comesNow 112 = .ok (.iconst 1, 1) := by decide +kernel
theorem dX5_comesNow_113 : decode cX5_comesNow 113 = .ok (.iadd, 1) := by decide +kernel
theorem dX5_comesNow_114 : decode cX5_comesNow 114 = .ok (.iaload, 1) := by decide +kernel
theorem dX5_comesNow_115 : decode cX5_comesNow 115 = .ok (.iastore, 1) := by decide +kernel
theorem dX5_comesNow_116 : decode cX5_comesNow 116 = .ok (.iinc 6 1, 3) := by decide +kernel
theorem dX5_comesNow_119 : decode cX5_comesNow 119 = .ok (.goto (-76), 3) := by decide +kernel
theorem dX5_comesNow_122 : decode cX5_comesNow 122 = .ok (.iload_n 2, 1) := by decide +kernel
theorem dX5_comesNow_123 : decode cX5_comesNow 123 = .ok (.tableswitch 180 0 4 #[33, 90, 138, 147, 169], 33) := by decide +kernel
theorem dX5_comesNow_156 : decode cX5_comesNow 156 = .ok (.aload_n 0, 1) := by decide +kernel
theorem dX5_comesNow_157 : decode cX5_comesNow 157 = .ok (.getfield 45, 3) := by decide +kernel
theorem dX5_comesNow_160 : decode cX5_comesNow 160 = .ok (.iconst 4, 1) := by decide +kernel
theorem dX5_comesNow_161 : decode cX5_comesNow 161 = .ok (.iload 5, 2) := by decide +kernel
theorem dX5_comesNow_163 : decode cX5_comesNow 163 = .ok (.imul, 1) := by decide +kernel
theorem dX5_comesNow_164 : decode cX5_comesNow 164 = .ok (.iload_n 3, 1) := by decide +kernel
theorem dX5_comesNow_165 : decode cX5_comesNow 165 = .ok (.iadd, 1) := by decide +kernel
theorem dX5_comesNow_166 : decode cX5_comesNow 166 = .ok (.baload, 1) := by decide +kernel
theorem dX5_comesNow_167 : decode cX5_comesNow 167 = .ok (.ifCond .ne 147, 3) := by decide +kernel
theorem dX5_comesNow_170 : decode cX5_comesNow 170 = .ok (.aload_n 0, 1) := by decide +kernel
theorem dX5_comesNow_171 : decode cX5_comesNow 171 = .ok (.iload 5, 2) := by decide +kernel
theorem dX5_comesNow_173 : decode cX5_comesNow 173 = .ok (.iload_n 3, 1) := by decide +kernel
theorem dX5_comesNow_174 : decode cX5_comesNow 174 = .ok (.invokevirtual 141, 3) := by decide +kernel
theorem dX5_comesNow_177 : decode cX5_comesNow 177 = .ok (.istore 6, 2) := by decide +kernel
theorem dX5_comesNow_179 : decode cX5_comesNow 179 = .ok (.iload 6, 2) := by decide +kernel
theorem dX5_comesNow_181 : decode cX5_comesNow 181 = .ok (.ifCond .eq 10, 3) := by decide +kernel
theorem dX5_comesNow_184 : decode cX5_comesNow 184 = .ok (.aload_n 0, 1) := by decide +kernel
theorem dX5_comesNow_185 : decode cX5_comesNow 185 = .ok (.iload 5, 2) := by decide +kernel
theorem dX5_comesNow_187 : decode cX5_comesNow 187 = .ok (.iload_n 3, 1) := by decide +kernel
theorem dX5_comesNow_188 : decode cX5_comesNow 188 = .ok (.invokevirtual 148, 3) := by decide +kernel
theorem dX5_comesNow_191 : decode cX5_comesNow 191 = .ok (.aload_n 0, 1) := by decide +kernel
theorem dX5_comesNow_192 : decode cX5_comesNow 192 = .ok (.iload 6, 2) := by decide +kernel
theorem dX5_comesNow_194 : decode cX5_comesNow 194 = .ok (.ifCond .eq 7, 3) := by decide +kernel
theorem dX5_comesNow_197 : decode cX5_comesNow 197 = .ok (.iconst 1, 1) := by decide +kernel
theorem dX5_comesNow_198 : decode cX5_comesNow 198 = .ok (.goto 4, 3) := by decide +kernel
theorem dX5_comesNow_201 : decode cX5_comesNow 201 = .ok (.iconst 2, 1) := by decide +kernel
theorem dX5_comesNow_202 : decode cX5_comesNow 202 = .ok (.iload 4, 2) := by decide +kernel
theorem dX5_comesNow_204 : decode cX5_comesNow 204 = .ok (.iload_n 3, 1) := by decide +kernel
theorem dX5_comesNow_205 : decode cX5_comesNow 205 = .ok (.iload 5, 2) := by decide +kernel
theorem dX5_comesNow_207 : decode cX5_comesNow 207 = .ok (.invokevirtual 133, 3) := by decide +kernel
theorem dX5_comesNow_210 : decode cX5_comesNow 210 = .ok (.goto 104, 3) := by decide +kernel
theorem dX5_comesNow_213 : decode cX5_comesNow 213 = .ok (.aload_n 0, 1) := by decide +kernel
theorem dX5_comesNow_214 : decode cX5_comesNow 214 = .ok (.getfield 39, 3) := by decide +kernel
theorem dX5_comesNow_217 : decode cX5_comesNow 217 = .ok (.iload 5, 2) := by decide +kernel
theorem dX5_comesNow_219 : decode cX5_comesNow 219 = .ok (.dup2, 1) := by decide +kernel
theorem dX5_comesNow_220 : decode cX5_comesNow 220 = .ok (.iaload, 1) := by decide +kernel
theorem dX5_comesNow_221 : decode cX5_comesNow 221 = .ok (.iconst 1, 1) := by decide +kernel
theorem dX5_comesNow_222 : decode cX5_comesNow 222 = .ok (.iadd, 1) := by decide +kernel
theorem dX5_comesNow_223 : decode cX5_comesNow 223 = .ok (.iastore, 1) := by decide +kernel
theorem dX5_comesNow_224 : decode cX5_comesNow 224 = .ok (.aload_n 0, 1) := by decide +kernel
theorem dX5_comesNow_225 : decode cX5_comesNow 225 = .ok (.getfield 27, 3) := by decide +kernel
theorem dX5_comesNow_228 : decode cX5_comesNow 228 = .ok (.iload 5, 2) := by decide +kernel
theorem dX5_comesNow_230 : decode cX5_comesNow 230 = .ok (.iaload, 1) := by decide +kernel
theorem dX5_comesNow_231 : decode cX5_comesNow 231 = .ok (.iconst 1, 1) := by decide +kernel
theorem dX5_comesNow_232 : decode cX5_comesNow 232 = .ok (.if_icmp .ne 82, 3) := by decide +kernel
theorem dX5_comesNow_235 : decode cX5_comesNow 235 = .ok (.aload_n 0, 1) := by decide +kernel
theorem dX5_comesNow_236 : decode cX5_comesNow 236 = .ok (.getfield 39, 3) := by decide +kernel
theorem dX5_comesNow_239 : decode cX5_comesNow 239 = .ok (.iload 5, 2) := by decide +kernel
theorem dX5_comesNow_241 : decode cX5_comesNow 241 = .ok (.iaload, 1) := by decide +kernel
theorem dX5_comesNow_242 : decode cX5_comesNow 242 = .ok (.aload_n 0, 1) := by decide +kernel
theorem dX5_comesNow_243 : decode cX5_comesNow 243 = .ok (.getfield 42, 3) := by decide +kernel
theorem dX5_comesNow_246 : decode cX5_comesNow 246 = .ok (.iload 5, 2) := by decide +kernel
theorem dX5_comesNow_248 : decode cX5_comesNow 248 = .ok (.iaload, 1) := by decide +kernel
theorem dX5_comesNow_249 : decode cX5_comesNow 249 = .ok (.if_icmp .ne 65, 3) := by decide +kernel
theorem dX5_comesNow_252 : decode cX5_comesNow 252 = .ok (.aload_n 0, 1) := by decide +kernel
theorem dX5_comesNow_253 : decode cX5_comesNow 253 = .ok (.iload 5, 2) := by decide +kernel
theorem dX5_comesNow_255 : decode cX5_comesNow 255 = .ok (.invokevirtual 144, 3) := by decide +kernel
theorem dX5_comesNow_258 : decode cX5_comesNow 258 = .ok (.goto 56, 3) := by decide +kernel
theorem dX5_comesNow_261 : decode cX5_comesNow 261 = .ok (.aload_n 0, 1) := by decide +kernel
theorem dX5_comesNow_262 : decode cX5_comesNow 262 = .ok (.iload 5, 2) := by decide +kernel
theorem dX5_comesNow_264 : decode cX5_comesNow 264 = .ok (.invokevirtual 154, 3) := by decide +kernel
theorem dX5_comesNow_267 : decode cX5_comesNow 267 = .ok (.goto 47, 3) := by decide +kernel
theorem dX5_comesNow_270 : decode cX5_comesNow 270 = .ok (.aload_n 0, 1) := by decide +kernel
theorem dX5_comesNow_271 : decode cX5_comesNow 271 = .ok (.getfield 45, 3) := by decide +kernel
theorem dX5_comesNow_274 : decode cX5_comesNow 274 = .ok (.iconst 4, 1) := by decide +kernel
theorem dX5_comesNow_275 : decode cX5_comesNow 275 = .ok (.iload 5, 2) := by decide +kernel
theorem dX5_comesNow_277 : decode cX5_comesNow 277 = .ok (.imul, 1) := by decide +kernel
theorem dX5_comesNow_278 : decode cX5_comesNow 278 = .ok (.iload_n 3, 1) := by decide +kernel
theorem dX5_comesNow_279 : decode cX5_comesNow 279 = .ok (.iadd, 1) := by decide +kernel
theorem dX5_comesNow_280 : decode cX5_comesNow 280 = .ok (.iconst 1, 1) := by decide +kernel
theorem dX5_comesNow_281 : decode cX5_comesNow 281 = .ok (.bastore, 1) := by decide +kernel
theorem dX5_comesNow_282 : decode cX5_comesNow 282 = .ok (.aload_n 0, 1) := by decide +kernel
theorem dX5_comesNow_283 : decode cX5_comesNow 283 = .ok (.iload 5, 2) := by decide +kernel
theorem dX5_comesNow_285 : decode cX5_comesNow 285 = .ok (.iload_n 3, 1) := by decide +kernel
theorem dX5_comesNow_286 : decode cX5_comesNow 286 = .ok (.invokevirtual 129, 3) := by decide +kernel
theorem dX5_comesNow_289 : decode cX5_comesNow 289 = .ok (.goto 25, 3) := by decide +kernel
theorem dX5_comesNow_292 : decode cX5_comesNow 292 = .ok (.aload_n 0, 1) := by decide +kernel
theorem dX5_comesNow_293 : decode cX5_comesNow 293 = .ok (.iload_n 3, 1) := by decide +kernel
theorem dX5_comesNow_294 : decode cX5_comesNow 294 = .ok (.iload 5, 2) := by decide +kernel
theorem dX5_comesNow_296 : decode cX5_comesNow 296 = .ok (.iconst 0, 1) := by decide +kernel
theorem dX5_comesNow_297 : decode cX5_comesNow 297 = .ok (.invokevirtual 137, 3) := by decide +kernel
theorem dX5_comesNow_300 : decode cX5_comesNow 300 = .ok (.goto 14, 3) := by decide +kernel
theorem dX5_comesNow_303 : decode cX5_comesNow 303 = .ok (.aload_n 0, 1) := by decide +kernel
theorem dX5_comesNow_304 : decode cX5_comesNow 304 = .ok (.getfield 36, 3) := by decide +kernel
theorem dX5_comesNow_307 : decode cX5_comesNow 307 = .ok (.iload 5, 2) := by decide +kernel
theorem dX5_comesNow_309 : decode cX5_comesNow 309 = .ok (.dup2, 1) := by decide +kernel
theorem dX5_comesNow_310 : decode cX5_comesNow 310 = .ok (.iaload, 1) := by decide +kernel
theorem dX5_comesNow_311 : decode cX5_comesNow 311 = .ok (.iconst 1, 1) := by decide +kernel
theorem dX5_comesNow_312 : decode cX5_comesNow 312 = .ok (.iadd, 1) := by decide +kernel
theorem dX5_comesNow_313 : decode cX5_comesNow 313 = .ok (.iastore, 1) := by decide +kernel
theorem dX5_comesNow_314 : decode cX5_comesNow 314 = .ok (.iload_n 2, 1) := by decide +kernel
theorem dX5_comesNow_315 : decode cX5_comesNow 315 = .ok (.ireturn, 1) := by decide +kernel
theorem dX5_refused_0 : decode cX5_refused 0 = .ok (.aload_n 0, 1) := by decide +kernel
theorem dX5_refused_1 : decode cX5_refused 1 = .ok (.getfield 27, 3) := by decide +kernel
theorem dX5_refused_4 : decode cX5_refused 4 = .ok (.iload_n 1, 1) := by decide +kernel
theorem dX5_refused_5 : decode cX5_refused 5 = .ok (.iaload, 1) := by decide +kernel
theorem dX5_refused_6 : decode cX5_refused 6 = .ok (.iconst 1, 1) := by decide +kernel
theorem dX5_refused_7 : decode cX5_refused 7 = .ok (.if_icmp .ne 69, 3) := by decide +kernel
theorem dX5_refused_10 : decode cX5_refused 10 = .ok (.aload_n 0, 1) := by decide +kernel
theorem dX5_refused_11 : decode cX5_refused 11 = .ok (.getfield 27, 3) := by decide +kernel
theorem dX5_refused_14 : decode cX5_refused 14 = .ok (.iload_n 1, 1) := by decide +kernel
theorem dX5_refused_15 : decode cX5_refused 15 = .ok (.iconst 3, 1) := by decide +kernel
theorem dX5_refused_16 : decode cX5_refused 16 = .ok (.iastore, 1) := by decide +kernel
theorem dX5_refused_17 : decode cX5_refused 17 = .ok (.aload_n 0, 1) := by decide +kernel
theorem dX5_refused_18 : decode cX5_refused 18 = .ok (.iload_n 1, 1) := by decide +kernel
theorem dX5_refused_19 : decode cX5_refused 19 = .ok (.aload_n 0, 1) := by decide +kernel
theorem dX5_refused_20 : decode cX5_refused 20 = .ok (.getfield 24, 3) := by decide +kernel
theorem dX5_refused_23 : decode cX5_refused 23 = .ok (.iload_n 1, 1) := by decide +kernel
theorem dX5_refused_24 : decode cX5_refused 24 = .ok (.iaload, 1) := by decide +kernel
theorem dX5_refused_25 : decode cX5_refused 25 = .ok (.invokevirtual 129, 3) := by decide +kernel
theorem dX5_refused_28 : decode cX5_refused 28 = .ok (.iconst 0, 1) := by decide +kernel
theorem dX5_refused_29 : decode cX5_refused 29 = .ok (.istore_n 2, 1) := by decide +kernel
theorem dX5_refused_30 : decode cX5_refused 30 = .ok (.iload_n 2, 1) := by decide +kernel
theorem dX5_refused_31 : decode cX5_refused 31 = .ok (.aload_n 0, 1) := by decide +kernel
theorem dX5_refused_32 : decode cX5_refused 32 = .ok (.getfield 7, 3) := by decide +kernel
theorem dX5_refused_35 : decode cX5_refused 35 = .ok (.if_icmp .ge 41, 3) := by decide +kernel
theorem dX5_refused_38 : decode cX5_refused 38 = .ok (.iload_n 2, 1) := by decide +kernel
theorem dX5_refused_39 : decode cX5_refused 39 = .ok (.aload_n 0, 1) := by decide +kernel
theorem dX5_refused_40 : decode cX5_refused 40 = .ok (.getfield 24, 3) := by decide +kernel
theorem dX5_refused_43 : decode cX5_refused 43 = .ok (.iload_n 1, 1) := by decide +kernel
theorem dX5_refused_44 : decode cX5_refused 44 = .ok (.iaload, 1) := by decide +kernel
theorem dX5_refused_45 : decode cX5_refused 45 = .ok (.if_icmp .eq 25, 3) := by decide +kernel
theorem dX5_refused_48 : decode cX5_refused 48 = .ok (.aload_n 0, 1) := by decide +kernel
theorem dX5_refused_49 : decode cX5_refused 49 = .ok (.iload_n 1, 1) := by decide +kernel
theorem dX5_refused_50 : decode cX5_refused 50 = .ok (.iload_n 2, 1) := by decide +kernel
theorem dX5_refused_51 : decode cX5_refused 51 = .ok (.invokevirtual 151, 3) := by decide +kernel
theorem dX5_refused_54 : decode cX5_refused 54 = .ok (.ifCond .eq 16, 3) := by decide +kernel
theorem dX5_refused_57 : decode cX5_refused 57 = .ok (.aload_n 0, 1) := by decide +kernel
theorem dX5_refused_58 : decode cX5_refused 58 = .ok (.iconst 3, 1) := by decide +kernel
theorem dX5_refused_59 : decode cX5_refused 59 = .ok (.iload_n 2, 1) := by decide +kernel
theorem dX5_refused_60 : decode cX5_refused 60 = .ok (.aload_n 0, 1) := by decide +kernel
theorem dX5_refused_61 : decode cX5_refused 61 = .ok (.getfield 24, 3) := by decide +kernel
theorem dX5_refused_64 : decode cX5_refused 64 = .ok (.iload_n 1, 1) := by decide +kernel
theorem dX5_refused_65 : decode cX5_refused 65 = .ok (.iaload, 1) := by decide +kernel
theorem dX5_refused_66 : decode cX5_refused 66 = .ok (.iload_n 1, 1) := by decide +kernel
theorem dX5_refused_67 : decode cX5_refused 67 = .ok (.invokevirtual 133, 3) := by decide +kernel
theorem dX5_refused_70 : decode cX5_refused 70 = .ok (.iinc 2 1, 3) := by decide +kernel
theorem dX5_refused_73 : decode cX5_refused 73 = .ok (.goto (-43), 3) := by decide +kernel
theorem dX5_refused_76 : decode cX5_refused 76 = .ok (.return_, 1) := by decide +kernel
theorem dX5_deliver_0 : decode cX5_deliver 0 = .ok (.aload_n 0, 1) := by decide +kernel
theorem dX5_deliver_1 : decode cX5_deliver 1 = .ok (.iload_n 1, 1) := by decide +kernel
theorem dX5_deliver_2 : decode cX5_deliver 2 = .ok (.invokevirtual 157, 3) := by decide +kernel
theorem dX5_deliver_5 : decode cX5_deliver 5 = .ok (.ifCond .ne 5, 3) := by decide +kernel
theorem dX5_deliver_8 : decode cX5_deliver 8 = .ok (.iconst (-1), 1) := by decide +kernel
theorem dX5_deliver_9 : decode cX5_deliver 9 = .ok (.ireturn, 1) := by decide +kernel
theorem dX5_deliver_10 : decode cX5_deliver 10 = .ok (.aload_n 0, 1) := by decide +kernel
theorem dX5_deliver_11 : decode cX5_deliver 11 = .ok (.iload_n 1, 1) := by decide +kernel
theorem dX5_deliver_12 : decode cX5_deliver 12 = .ok (.invokevirtual 160, 3) := by decide +kernel
theorem dX5_deliver_15 : decode cX5_deliver 15 = .ok (.ifCond .eq 11, 3) := by decide +kernel
theorem dX5_deliver_18 : decode cX5_deliver 18 = .ok (.aload_n 0, 1) := by decide +kernel
theorem dX5_deliver_19 : decode cX5_deliver 19 = .ok (.iload_n 1, 1) := by decide +kernel
theorem dX5_deliver_20 : decode cX5_deliver 20 = .ok (.invokevirtual 163, 3) := by decide +kernel
theorem dX5_deliver_23 : decode cX5_deliver 23 = .ok (.goto 5, 3) := by decide +kernel
theorem dX5_deliver_26 : decode cX5_deliver 26 = .ok (.bipush (-2), 2) := by decide +kernel
theorem dX5_deliver_28 : decode cX5_deliver 28 = .ok (.ireturn, 1) := by decide +kernel
theorem dX5_all_0 : decode cX5_all 0 = .ok (.iload_n 1, 1) := by decide +kernel
theorem dX5_all_1 : decode cX5_all 1 = .ok (.i2l, 1) := by decide +kernel
theorem dX5_all_2 : decode cX5_all 2 = .ok (.lconst 0, 1) := by decide +kernel
theorem dX5_all_3 : decode cX5_all 3 = .ok (.ldc2_w 166, 3) := by decide +kernel
theorem dX5_all_6 : decode cX5_all 6 = .ok (.invokestatic 85, 3) := by decide +kernel
theorem dX5_all_9 : decode cX5_all 9 = .ok (.ifCond .ne 5, 3) := by decide +kernel
theorem dX5_all_12 : decode cX5_all 12 = .ok (.iconst (-1), 1) := by decide +kernel
theorem dX5_all_13 : decode cX5_all 13 = .ok (.ireturn, 1) := by decide +kernel
theorem dX5_all_14 : decode cX5_all 14 = .ok (.iconst 0, 1) := by decide +kernel
theorem dX5_all_15 : decode cX5_all 15 = .ok (.istore_n 2, 1) := by decide +kernel
theorem dX5_all_16 : decode cX5_all 16 = .ok (.iconst 1, 1) := by decide +kernel
theorem dX5_all_17 : decode cX5_all 17 = .ok (.istore_n 3, 1) := by decide +kernel
theorem dX5_all_18 : decode cX5_all 18 = .ok (.iload_n 3, 1) := by decide +kernel
theorem dX5_all_19 : decode cX5_all 19 = .ok (.ifCond .eq 67, 3) := by decide +kernel
theorem dX5_all_22 : decode cX5_all 22 = .ok (.iload_n 2, 1) := by decide +kernel
theorem dX5_all_23 : decode cX5_all 23 = .ok (.iload_n 1, 1) := by decide +kernel
theorem dX5_all_24 : decode cX5_all 24 = .ok (.if_icmp .ge 62, 3) := by decide +kernel
theorem dX5_all_27 : decode cX5_all 27 = .ok (.iconst 0, 1) := by decide +kernel
theorem dX5_all_28 : decode cX5_all 28 = .ok (.istore 4, 2) := by decide +kernel
theorem dX5_all_30 : decode cX5_all 30 = .ok (.iload 4, 2) := by decide +kernel
theorem dX5_all_32 : decode cX5_all 32 = .ok (.aload_n 0, 1) := by decide +kernel
theorem dX5_all_33 : decode cX5_all 33 = .ok (.getfield 122, 3) := by decide +kernel
theorem dX5_all_36 : decode cX5_all 36 = .ok (.if_icmp .ge 18, 3) := by decide +kernel
theorem dX5_all_39 : decode cX5_all 39 = .ok (.aload_n 0, 1) := by decide +kernel
theorem dX5_all_40 : decode cX5_all 40 = .ok (.iload 4, 2) := by decide +kernel
theorem dX5_all_42 : decode cX5_all 42 = .ok (.invokevirtual 160, 3) := by decide +kernel
theorem dX5_all_45 : decode cX5_all 45 = .ok (.ifCond .ne 9, 3) := by decide +kernel
theorem dX5_all_48 : decode cX5_all 48 = .ok (.iinc 4 1, 3) := by decide +kernel
theorem dX5_all_51 : decode cX5_all 51 = .ok (.goto (-21), 3) := by decide +kernel
theorem dX5_all_54 : decode cX5_all 54 = .ok (.iload 4, 2) := by decide +kernel
theorem dX5_all_56 : decode cX5_all 56 = .ok (.aload_n 0, 1) := by decide +kernel
theorem dX5_all_57 : decode cX5_all 57 = .ok (.getfield 122, 3) := by decide +kernel
theorem dX5_all_60 : decode cX5_all 60 = .ok (.if_icmp .ge 7, 3) := by decide +kernel
theorem dX5_all_63 : decode cX5_all 63 = .ok (.iconst 1, 1) := by decide +kernel
theorem dX5_all_64 : decode cX5_all 64 = .ok (.goto 4, 3) := by decide +kernel
theorem dX5_all_67 : decode cX5_all 67 = .ok (.iconst 0, 1) := by decide +kernel
theorem dX5_all_68 : decode cX5_all 68 = .ok (.istore_n 3, 1) := by decide +kernel
theorem dX5_all_69 : decode cX5_all 69 = .ok (.iload_n 3, 1) := by decide +kernel
theorem dX5_all_70 : decode cX5_all 70 = .ok (.ifCond .eq 13, 3) := by decide +kernel
theorem dX5_all_73 : decode cX5_all 73 = .ok (.aload_n 0, 1) := by decide +kernel
theorem dX5_all_74 : decode cX5_all 74 = .ok (.iload 4, 2) := by decide +kernel
theorem dX5_all_76 : decode cX5_all 76 = .ok (.invokevirtual 163, 3) := by decide +kernel
theorem dX5_all_79 : decode cX5_all 79 = .ok (.pop, 1) := by decide +kernel
theorem dX5_all_80 : decode cX5_all 80 = .ok (.iinc 2 1, 3) := by decide +kernel
theorem dX5_all_83 : decode cX5_all 83 = .ok (.goto (-65), 3) := by decide +kernel
theorem dX5_all_86 : decode cX5_all 86 = .ok (.iload_n 2, 1) := by decide +kernel
theorem dX5_all_87 : decode cX5_all 87 = .ok (.ireturn, 1) := by decide +kernel
theorem dX5_message_0 : decode cX5_message 0 = .ok (.aload_n 0, 1) := by decide +kernel
theorem dX5_message_1 : decode cX5_message 1 = .ok (.iload_n 1, 1) := by decide +kernel
theorem dX5_message_2 : decode cX5_message 2 = .ok (.invokevirtual 157, 3) := by decide +kernel
theorem dX5_message_5 : decode cX5_message 5 = .ok (.ifCond .ne 5, 3) := by decide +kernel
theorem dX5_message_8 : decode cX5_message 8 = .ok (.iconst (-1), 1) := by decide +kernel
theorem dX5_message_9 : decode cX5_message 9 = .ok (.ireturn, 1) := by decide +kernel
theorem dX5_message_10 : decode cX5_message 10 = .ok (.iload_n 2, 1) := by decide +kernel
theorem dX5_message_11 : decode cX5_message 11 = .ok (.tableswitch 75 0 4 #[33, 40, 47, 54, 61], 33) := by decide +kernel
theorem dX5_message_44 : decode cX5_message 44 = .ok (.aload_n 0, 1) := by decide +kernel
theorem dX5_message_45 : decode cX5_message 45 = .ok (.getfield 73, 3) := by decide +kernel
theorem dX5_message_48 : decode cX5_message 48 = .ok (.iload_n 1, 1) := by decide +kernel
theorem dX5_message_49 : decode cX5_message 49 = .ok (.iaload, 1) := by decide +kernel
theorem dX5_message_50 : decode cX5_message 50 = .ok (.ireturn, 1) := by decide +kernel
theorem dX5_message_51 : decode cX5_message 51 = .ok (.aload_n 0, 1) := by decide +kernel
theorem dX5_message_52 : decode cX5_message 52 = .ok (.getfield 76, 3) := by decide +kernel
theorem dX5_message_55 : decode cX5_message 55 = .ok (.iload_n 1, 1) := by decide +kernel
theorem dX5_message_56 : decode cX5_message 56 = .ok (.iaload, 1) := by decide +kernel
theorem dX5_message_57 : decode cX5_message 57 = .ok (.ireturn, 1) := by decide +kernel
theorem dX5_message_58 : decode cX5_message 58 = .ok (.aload_n 0, 1) := by decide +kernel
theorem dX5_message_59 : decode cX5_message 59 = .ok (.getfield 79, 3) := by decide +kernel
theorem dX5_message_62 : decode cX5_message 62 = .ok (.iload_n 1, 1) := by decide +kernel
theorem dX5_message_63 : decode cX5_message 63 = .ok (.iaload, 1) := by decide +kernel
theorem dX5_message_64 : decode cX5_message 64 = .ok (.ireturn, 1) := by decide +kernel
theorem dX5_message_65 : decode cX5_message 65 = .ok (.aload_n 0, 1) := by decide +kernel
theorem dX5_message_66 : decode cX5_message 66 = .ok (.getfield 82, 3) := by decide +kernel
theorem dX5_message_69 : decode cX5_message 69 = .ok (.iload_n 1, 1) := by decide +kernel
theorem dX5_message_70 : decode cX5_message 70 = .ok (.iaload, 1) := by decide +kernel
theorem dX5_message_71 : decode cX5_message 71 = .ok (.ireturn, 1) := by decide +kernel
theorem dX5_message_72 : decode cX5_message 72 = .ok (.aload_n 0, 1) := by decide +kernel
theorem dX5_message_73 : decode cX5_message 73 = .ok (.iload_n 1, 1) := by decide +kernel
theorem dX5_message_74 : decode cX5_message 74 = .ok (.invokevirtual 160, 3) := by decide +kernel
theorem dX5_message_77 : decode cX5_message 77 = .ok (.ifCond .eq 7, 3) := by decide +kernel
theorem dX5_message_80 : decode cX5_message 80 = .ok (.iconst 1, 1) := by decide +kernel
theorem dX5_message_81 : decode cX5_message 81 = .ok (.goto 4, 3) := by decide +kernel
theorem dX5_message_84 : decode cX5_message 84 = .ok (.iconst 0, 1) := by decide +kernel
theorem dX5_message_85 : decode cX5_message 85 = .ok (.ireturn, 1) := by decide +kernel
theorem dX5_message_86 : decode cX5_message 86 = .ok (.iconst (-1), 1) := by decide +kernel
theorem dX5_message_87 : decode cX5_message 87 = .ok (.ireturn, 1) := by decide +kernel
theorem dX5_isSafe_0 : decode cX5_isSafe 0 = .ok (.aload_n 0, 1) := by decide +kernel
theorem dX5_isSafe_1 : decode cX5_isSafe 1 = .ok (.getfield 33, 3) := by decide +kernel
theorem dX5_isSafe_4 : decode cX5_isSafe 4 = .ok (.iload_n 1, 1) := by decide +kernel
theorem dX5_isSafe_5 : decode cX5_isSafe 5 = .ok (.iaload, 1) := by decide +kernel
theorem dX5_isSafe_6 : decode cX5_isSafe 6 = .ok (.ifCond .le 20, 3) := by decide +kernel
theorem dX5_isSafe_9 : decode cX5_isSafe 9 = .ok (.aload_n 0, 1) := by decide +kernel
theorem dX5_isSafe_10 : decode cX5_isSafe 10 = .ok (.getfield 36, 3) := by decide +kernel
theorem dX5_isSafe_13 : decode cX5_isSafe 13 = .ok (.iload_n 1, 1) := by decide +kernel
theorem dX5_isSafe_14 : decode cX5_isSafe 14 = .ok (.iaload, 1) := by decide +kernel
theorem dX5_isSafe_15 : decode cX5_isSafe 15 = .ok (.aload_n 0, 1) := by decide +kernel
theorem dX5_isSafe_16 : decode cX5_isSafe 16 = .ok (.getfield 13, 3) := by decide +kernel
theorem dX5_isSafe_19 : decode cX5_isSafe 19 = .ok (.if_icmp .lt 7, 3) := by decide +kernel
theorem dX5_isSafe_22 : decode cX5_isSafe 22 = .ok (.iconst 1, 1) := by decide +kernel
theorem dX5_isSafe_23 : decode cX5_isSafe 23 = .ok (.goto 4, 3) := by decide +kernel
theorem dX5_isSafe_26 : decode cX5_isSafe 26 = .ok (.iconst 0, 1) := by decide +kernel
theorem dX5_isSafe_27 : decode cX5_isSafe 27 = .ok (.ireturn, 1) := by decide +kernel
theorem dX5_told_0 : decode cX5_told 0 = .ok (.aload_n 0, 1) := by decide +kernel
theorem dX5_told_1 : decode cX5_told 1 = .ok (.iload_n 1, 1) := by decide +kernel
theorem dX5_told_2 : decode cX5_told 2 = .ok (.invokevirtual 103, 3) := by decide +kernel
theorem dX5_told_5 : decode cX5_told 5 = .ok (.ifCond .ne 5, 3) := by decide +kernel
theorem dX5_told_8 : decode cX5_told 8 = .ok (.iconst (-1), 1) := by decide +kernel
theorem dX5_told_9 : decode cX5_told 9 = .ok (.ireturn, 1) := by decide +kernel
theorem dX5_told_10 : decode cX5_told 10 = .ok (.iload_n 2, 1) := by decide +kernel
theorem dX5_told_11 : decode cX5_told 11 = .ok (.tableswitch 141 0 8 #[49, 56, 63, 70, 77, 91, 121, 127, 134], 49) := by decide +kernel
theorem dX5_told_60 : decode cX5_told 60 = .ok (.aload_n 0, 1) := by decide +kernel
theorem dX5_told_61 : decode cX5_told 61 = .ok (.getfield 27, 3) := by decide +kernel
theorem dX5_told_64 : decode cX5_told 64 = .ok (.iload_n 1, 1) := by decide +kernel
theorem dX5_told_65 : decode cX5_told 65 = .ok (.iaload, 1) := by decide +kernel
theorem dX5_told_66 : decode cX5_told 66 = .ok (.ireturn, 1) := by decide +kernel
theorem dX5_told_67 : decode cX5_told 67 = .ok (.aload_n 0, 1) := by decide +kernel
theorem dX5_told_68 : decode cX5_told 68 = .ok (.getfield 24, 3) := by decide +kernel
theorem dX5_told_71 : decode cX5_told 71 = .ok (.iload_n 1, 1) := by decide +kernel
theorem dX5_told_72 : decode cX5_told 72 = .ok (.iaload, 1) := by decide +kernel
theorem dX5_told_73 : decode cX5_told 73 = .ok (.ireturn, 1) := by decide +kernel
theorem dX5_told_74 : decode cX5_told 74 = .ok (.aload_n 0, 1) := by decide +kernel
theorem dX5_told_75 : decode cX5_told 75 = .ok (.getfield 33, 3) := by decide +kernel
theorem dX5_told_78 : decode cX5_told 78 = .ok (.iload_n 1, 1) := by decide +kernel
theorem dX5_told_79 : decode cX5_told 79 = .ok (.iaload, 1) := by decide +kernel
theorem dX5_told_80 : decode cX5_told 80 = .ok (.ireturn, 1) := by decide +kernel
theorem dX5_told_81 : decode cX5_told 81 = .ok (.aload_n 0, 1) := by decide +kernel
theorem dX5_told_82 : decode cX5_told 82 = .ok (.getfield 36, 3) := by decide +kernel
theorem dX5_told_85 : decode cX5_told 85 = .ok (.iload_n 1, 1) := by decide +kernel
theorem dX5_told_86 : decode cX5_told 86 = .ok (.iaload, 1) := by decide +kernel
theorem dX5_told_87 : decode cX5_told 87 = .ok (.ireturn, 1) := by decide +kernel
theorem dX5_told_88 : decode cX5_told 88 = .ok (.aload_n 0, 1) := by decide +kernel
theorem dX5_told_89 : decode cX5_told 89 = .ok (.iload_n 1, 1) := by decide +kernel
theorem dX5_told_90 : decode cX5_told 90 = .ok (.invokevirtual 168, 3) := by decide +kernel
theorem dX5_told_93 : decode cX5_told 93 = .ok (.ifCond .eq 7, 3) := by decide +kernel
theorem dX5_told_96 : decode cX5_told 96 = .ok (.iconst 1, 1) := by decide +kernel
theorem dX5_told_97 : decode cX5_told 97 = .ok (.goto 4, 3) := by decide +kernel
theorem dX5_told_100 : decode cX5_told 100 = .ok (.iconst 0, 1) := by decide +kernel
theorem dX5_told_101 : decode cX5_told 101 = .ok (.ireturn, 1) := by decide +kernel
theorem dX5_told_102 : decode cX5_told 102 = .ok (.aload_n 0, 1) := by decide +kernel
theorem dX5_told_103 : decode cX5_told 103 = .ok (.getfield 33, 3) := by decide +kernel
theorem dX5_told_106 : decode cX5_told 106 = .ok (.iload_n 1, 1) := by decide +kernel
theorem dX5_told_107 : decode cX5_told 107 = .ok (.iaload, 1) := by decide +kernel
theorem dX5_told_108 : decode cX5_told 108 = .ok (.ifCond .le 22, 3) := by decide +kernel
theorem dX5_told_111 : decode cX5_told 111 = .ok (.aload_n 0, 1) := by decide +kernel
theorem dX5_told_112 : decode cX5_told 112 = .ok (.getfield 36, 3) := by decide +kernel
theorem dX5_told_115 : decode cX5_told 115 = .ok (.iload_n 1, 1) := by decide +kernel
theorem dX5_told_116 : decode cX5_told 116 = .ok (.iaload, 1) := by decide +kernel
theorem dX5_told_117 : decode cX5_told 117 = .ok (.aload_n 0, 1) := by decide +kernel
theorem dX5_told_118 : decode cX5_told 118 = .ok (.getfield 7, 3) := by decide +kernel
theorem dX5_told_121 : decode cX5_told 121 = .ok (.iconst 1, 1) := by decide +kernel
theorem dX5_told_122 : decode cX5_told 122 = .ok (.isub, 1) := by decide +kernel
theorem dX5_told_123 : decode cX5_told 123 = .ok (.if_icmp .ne 7, 3) := by decide +kernel
theorem dX5_told_126 : decode cX5_told 126 = .ok (.iconst 1, 1) := by decide +kernel
theorem dX5_told_127 : decode cX5_told 127 = .ok (.goto 4, 3) := by decide +kernel
theorem dX5_told_130 : decode cX5_told 130 = .ok (.iconst 0, 1) := by decide +kernel
theorem dX5_told_131 : decode cX5_told 131 = .ok (.ireturn, 1) := by decide +kernel
theorem dX5_told_132 : decode cX5_told 132 = .ok (.aload_n 0, 1) := by decide +kernel
theorem dX5_told_133 : decode cX5_told 133 = .ok (.iload_n 1, 1) := by decide +kernel
theorem dX5_told_134 : decode cX5_told 134 = .ok (.invokevirtual 118, 3) := by decide +kernel
theorem dX5_told_137 : decode cX5_told 137 = .ok (.ireturn, 1) := by decide +kernel
theorem dX5_told_138 : decode cX5_told 138 = .ok (.aload_n 0, 1) := by decide +kernel
theorem dX5_told_139 : decode cX5_told 139 = .ok (.getfield 39, 3) := by decide +kernel
theorem dX5_told_142 : decode cX5_told 142 = .ok (.iload_n 1, 1) := by decide +kernel
theorem dX5_told_143 : decode cX5_told 143 = .ok (.iaload, 1) := by decide +kernel
theorem dX5_told_144 : decode cX5_told 144 = .ok (.ireturn, 1) := by decide +kernel
theorem dX5_told_145 : decode cX5_told 145 = .ok (.aload_n 0, 1) := by decide +kernel
theorem dX5_told_146 : decode cX5_told 146 = .ok (.getfield 42, 3) := by decide +kernel
theorem dX5_told_149 : decode cX5_told 149 = .ok (.iload_n 1, 1) := by decide +kernel
theorem dX5_told_150 : decode cX5_told 150 = .ok (.iaload, 1) := by decide +kernel
theorem dX5_told_151 : decode cX5_told 151 = .ok (.ireturn, 1) := by decide +kernel
theorem dX5_told_152 : decode cX5_told 152 = .ok (.iconst (-1), 1) := by decide +kernel
theorem dX5_told_153 : decode cX5_told 153 = .ok (.ireturn, 1) := by decide +kernel
theorem dX5_start_0 : decode cX5_start 0 = .ok (.aload_n 0, 1) := by decide +kernel
theorem dX5_start_1 : decode cX5_start 1 = .ok (.iload_n 1, 1) := by decide +kernel
theorem dX5_start_2 : decode cX5_start 2 = .ok (.invokevirtual 103, 3) := by decide +kernel
theorem dX5_start_5 : decode cX5_start 5 = .ok (.ifCond .eq 24, 3) := by decide +kernel
theorem dX5_start_8 : decode cX5_start 8 = .ok (.aload_n 0, 1) := by decide +kernel
theorem dX5_start_9 : decode cX5_start 9 = .ok (.iload_n 2, 1) := by decide +kernel
theorem dX5_start_10 : decode cX5_start 10 = .ok (.invokevirtual 99, 3) := by decide +kernel
theorem dX5_start_13 : decode cX5_start 13 = .ok (.ifCond .eq 16, 3) := by decide +kernel
theorem dX5_start_16 : decode cX5_start 16 = .ok (.aload_n 0, 1) := by decide +kernel
theorem dX5_start_17 : decode cX5_start 17 = .ok (.getfield 30, 3) := by decide +kernel
theorem dX5_start_20 : decode cX5_start 20 = .ok (.iconst 4, 1) := by decide +kernel
theorem dX5_start_21 : decode cX5_start 21 = .ok (.iload_n 1, 1) := by decide +kernel
theorem dX5_start_22 : decode cX5_start 22 = .ok (.imul, 1) := by decide +kernel
theorem dX5_start_23 : decode cX5_start 23 = .ok (.iload_n 2, 1) := by decide +kernel
theorem dX5_start_24 : decode cX5_start 24 = .ok (.iadd, 1) := by decide +kernel
theorem dX5_start_25 : decode cX5_start 25 = .ok (.iaload, 1) := by decide +kernel
theorem dX5_start_26 : decode cX5_start 26 = .ok (.goto 4, 3) := by decide +kernel
theorem dX5_start_29 : decode cX5_start 29 = .ok (.iconst (-1), 1) := by decide +kernel
theorem dX5_start_30 : decode cX5_start 30 = .ok (.ireturn, 1) := by decide +kernel
theorem dX5_had_0 : decode cX5_had 0 = .ok (.aload_n 0, 1) := by decide +kernel
theorem dX5_had_1 : decode cX5_had 1 = .ok (.iload_n 1, 1) := by decide +kernel
theorem dX5_had_2 : decode cX5_had 2 = .ok (.invokevirtual 99, 3) := by decide +kernel
theorem dX5_had_5 : decode cX5_had 5 = .ok (.ifCond .eq 24, 3) := by decide +kernel
theorem dX5_had_8 : decode cX5_had 8 = .ok (.aload_n 0, 1) := by decide +kernel
theorem dX5_had_9 : decode cX5_had 9 = .ok (.iload_n 2, 1) := by decide +kernel
theorem dX5_had_10 : decode cX5_had 10 = .ok (.invokevirtual 99, 3) := by decide +kernel
theorem dX5_had_13 : decode cX5_had 13 = .ok (.ifCond .eq 16, 3) := by decide +kernel
theorem dX5_had_16 : decode cX5_had 16 = .ok (.aload_n 0, 1) := by decide +kernel
theorem dX5_had_17 : decode cX5_had 17 = .ok (.getfield 61, 3) := by decide +kernel
theorem dX5_had_20 : decode cX5_had 20 = .ok (.iconst 4, 1) := by decide +kernel
theorem dX5_had_21 : decode cX5_had 21 = .ok (.iload_n 1, 1) := by decide +kernel
theorem dX5_had_22 : decode cX5_had 22 = .ok (.imul, 1) := by decide +kernel
theorem dX5_had_23 : decode cX5_had 23 = .ok (.iload_n 2, 1) := by decide +kernel
theorem dX5_had_24 : decode cX5_had 24 = .ok (.iadd, 1) := by decide +kernel
theorem dX5_had_25 : decode cX5_had 25 = .ok (.iaload, 1) := by decide +kernel
theorem dX5_had_26 : decode cX5_had 26 = .ok (.goto 4, 3) := by decide +kernel
theorem dX5_had_29 : decode cX5_had 29 = .ok (.iconst (-1), 1) := by decide +kernel
theorem dX5_had_30 : decode cX5_had 30 = .ok (.ireturn, 1) := by decide +kernel
theorem dX5_locked_0 : decode cX5_locked 0 = .ok (.aload_n 0, 1) := by decide +kernel
theorem dX5_locked_1 : decode cX5_locked 1 = .ok (.iload_n 1, 1) := by decide +kernel
theorem dX5_locked_2 : decode cX5_locked 2 = .ok (.invokevirtual 99, 3) := by decide +kernel
theorem dX5_locked_5 : decode cX5_locked 5 = .ok (.ifCond .eq 25, 3) := by decide +kernel
theorem dX5_locked_8 : decode cX5_locked 8 = .ok (.aload_n 0, 1) := by decide +kernel
theorem dX5_locked_9 : decode cX5_locked 9 = .ok (.iload_n 2, 1) := by decide +kernel
theorem dX5_locked_10 : decode cX5_locked 10 = .ok (.invokevirtual 106, 3) := by decide +kernel
theorem dX5_locked_13 : decode cX5_locked 13 = .ok (.ifCond .eq 17, 3) := by decide +kernel
theorem dX5_locked_16 : decode cX5_locked 16 = .ok (.aload_n 0, 1) := by decide +kernel
theorem dX5_locked_17 : decode cX5_locked 17 = .ok (.getfield 70, 3) := by decide +kernel
theorem dX5_locked_20 : decode cX5_locked 20 = .ok (.bipush 12, 2) := by decide +kernel
theorem dX5_locked_22 : decode cX5_locked 22 = .ok (.iload_n 1, 1) := by decide +kernel
theorem dX5_locked_23 : decode cX5_locked 23 = .ok (.imul, 1) := by decide +kernel
theorem dX5_locked_24 : decode cX5_locked 24 = .ok (.iload_n 2, 1) := by decide +kernel
theorem dX5_locked_25 : decode cX5_locked 25 = .ok (.iadd, 1) := by decide +kernel
theorem dX5_locked_26 : decode cX5_locked 26 = .ok (.iaload, 1) := by decide +kernel
theorem dX5_locked_27 : decode cX5_locked 27 = .ok (.goto 4, 3) := by decide +kernel
theorem dX5_locked_30 : decode cX5_locked 30 = .ok (.iconst (-1), 1) := by decide +kernel
theorem dX5_locked_31 : decode cX5_locked 31 = .ok (.ireturn, 1) := by decide +kernel
theorem dX5_sees_0 : decode cX5_sees 0 = .ok (.aload_n 0, 1) := by decide +kernel
theorem dX5_sees_1 : decode cX5_sees 1 = .ok (.iload_n 1, 1) := by decide +kernel
theorem dX5_sees_2 : decode cX5_sees 2 = .ok (.invokevirtual 103, 3) := by decide +kernel
theorem dX5_sees_5 : decode cX5_sees 5 = .ok (.ifCond .eq 11, 3) := by decide +kernel
theorem dX5_sees_8 : decode cX5_sees 8 = .ok (.aload_n 0, 1) := by decide +kernel
theorem dX5_sees_9 : decode cX5_sees 9 = .ok (.iload_n 2, 1) := by decide +kernel
theorem dX5_sees_10 : decode cX5_sees 10 = .ok (.invokevirtual 103, 3) := by decide +kernel
theorem dX5_sees_13 : decode cX5_sees 13 = .ok (.ifCond .ne 5, 3) := by decide +kernel
theorem dX5_sees_16 : decode cX5_sees 16 = .ok (.iconst (-1), 1) := by decide +kernel
theorem dX5_sees_17 : decode cX5_sees 17 = .ok (.ireturn, 1) := by decide +kernel
theorem dX5_sees_18 : decode cX5_sees 18 = .ok (.aload_n 0, 1) := by decide +kernel
theorem dX5_sees_19 : decode cX5_sees 19 = .ok (.getfield 33, 3) := by decide +kernel
theorem dX5_sees_22 : decode cX5_sees 22 = .ok (.iload_n 2, 1) := by decide +kernel
theorem dX5_sees_23 : decode cX5_sees 23 = .ok (.iaload, 1) := by decide +kernel
theorem dX5_sees_24 : decode cX5_sees 24 = .ok (.ifCond .ne 6, 3) := by decide +kernel
theorem dX5_sees_27 : decode cX5_sees 27 = .ok (.bipush (-4), 2) := by decide +kernel
theorem dX5_sees_29 : decode cX5_sees 29 = .ok (.ireturn, 1) := by decide +kernel
theorem dX5_sees_30 : decode cX5_sees 30 = .ok (.iload_n 1, 1) := by decide +kernel
theorem dX5_sees_31 : decode cX5_sees 31 = .ok (.iload_n 2, 1) := by decide +kernel
theorem dX5_sees_32 : decode cX5_sees 32 = .ok (.if_icmp .eq 12, 3) := by decide +kernel
theorem dX5_sees_35 : decode cX5_sees 35 = .ok (.aload_n 0, 1) := by decide +kernel
theorem dX5_sees_36 : decode cX5_sees 36 = .ok (.iload_n 1, 1) := by decide +kernel
theorem dX5_sees_37 : decode cX5_sees 37 = .ok (.iload_n 2, 1) := by decide +kernel
theorem dX5_sees_38 : decode cX5_sees 38 = .ok (.invokevirtual 109, 3) := by decide +kernel
theorem dX5_sees_41 : decode cX5_sees 41 = .ok (.ifCond .eq 7, 3) := by decide +kernel
theorem dX5_sees_44 : decode cX5_sees 44 = .ok (.iconst 1, 1) := by decide +kernel
theorem dX5_sees_45 : decode cX5_sees 45 = .ok (.goto 4, 3) := by decide +kernel
theorem dX5_sees_48 : decode cX5_sees 48 = .ok (.iconst 0, 1) := by decide +kernel
theorem dX5_sees_49 : decode cX5_sees 49 = .ok (.ireturn, 1) := by decide +kernel
theorem dX5_calm_0 : decode cX5_calm 0 = .ok (.iconst 1, 1) := by decide +kernel
theorem dX5_calm_1 : decode cX5_calm 1 = .ok (.istore_n 1, 1) := by decide +kernel
theorem dX5_calm_2 : decode cX5_calm 2 = .ok (.iconst 0, 1) := by decide +kernel
theorem dX5_calm_3 : decode cX5_calm 3 = .ok (.istore_n 2, 1) := by decide +kernel
theorem dX5_calm_4 : decode cX5_calm 4 = .ok (.iload_n 2, 1) := by decide +kernel
theorem dX5_calm_5 : decode cX5_calm 5 = .ok (.aload_n 0, 1) := by decide +kernel
theorem dX5_calm_6 : decode cX5_calm 6 = .ok (.getfield 7, 3) := by decide +kernel
theorem dX5_calm_9 : decode cX5_calm 9 = .ok (.if_icmp .ge 58, 3) := by decide +kernel
theorem dX5_calm_12 : decode cX5_calm 12 = .ok (.iconst 0, 1) := by decide +kernel
theorem dX5_calm_13 : decode cX5_calm 13 = .ok (.istore_n 3, 1) := by decide +kernel
theorem dX5_calm_14 : decode cX5_calm 14 = .ok (.iload_n 3, 1) := by decide +kernel
theorem dX5_calm_15 : decode cX5_calm 15 = .ok (.aload_n 0, 1) := by decide +kernel
theorem dX5_calm_16 : decode cX5_calm 16 = .ok (.getfield 7, 3) := by decide +kernel
theorem dX5_calm_19 : decode cX5_calm 19 = .ok (.if_icmp .ge 42, 3) := by decide +kernel
theorem dX5_calm_22 : decode cX5_calm 22 = .ok (.iload_n 1, 1) := by decide +kernel
theorem dX5_calm_23 : decode cX5_calm 23 = .ok (.ifCond .eq 30, 3) := by decide +kernel
theorem dX5_calm_26 : decode cX5_calm 26 = .ok (.aload_n 0, 1) := by decide +kernel
theorem dX5_calm_27 : decode cX5_calm 27 = .ok (.getfield 61, 3) := by decide +kernel
theorem dX5_calm_30 : decode cX5_calm 30 = .ok (.iconst 4, 1) := by decide +kernel
theorem dX5_calm_31 : decode cX5_calm 31 = .ok (.iload_n 2, 1) := by decide +kernel
theorem dX5_calm_32 : decode cX5_calm 32 = .ok (.imul, 1) := by decide +kernel
theorem dX5_calm_33 : decode cX5_calm 33 = .ok (.iload_n 3, 1) := by decide +kernel
theorem dX5_calm_34 : decode cX5_calm 34 = .ok (.iadd, 1) := by decide +kernel
theorem dX5_calm_35 : decode cX5_calm 35 = .ok (.iaload, 1) := by decide +kernel
theorem dX5_calm_36 : decode cX5_calm 36 = .ok (.aload_n 0, 1) := by decide +kernel
theorem dX5_calm_37 : decode cX5_calm 37 = .ok (.getfield 61, 3) := by decide +kernel
theorem dX5_calm_40 : decode cX5_calm 40 = .ok (.iconst 4, 1) := by decide +kernel
theorem dX5_calm_41 : decode cX5_calm 41 = .ok (.iload_n 3, 1) := by decide +kernel
theorem dX5_calm_42 : decode cX5_calm 42 = .ok (.imul, 1) := by decide +kernel
theorem dX5_calm_43 : decode cX5_calm 43 = .ok (.iload_n 3, 1) := by decide +kernel
theorem dX5_calm_44 : decode cX5_calm 44 = .ok (.iadd, 1) := by decide +kernel
theorem dX5_calm_45 : decode cX5_calm 45 = .ok (.iaload, 1) := by decide +kernel
theorem dX5_calm_46 : decode cX5_calm 46 = .ok (.if_icmp .ne 7, 3) := by decide +kernel
theorem dX5_calm_49 : decode cX5_calm 49 = .ok (.iconst 1, 1) := by decide +kernel
theorem dX5_calm_50 : decode cX5_calm 50 = .ok (.goto 4, 3) := by decide +kernel
theorem dX5_calm_53 : decode cX5_calm 53 = .ok (.iconst 0, 1) := by decide +kernel
theorem dX5_calm_54 : decode cX5_calm 54 = .ok (.istore_n 1, 1) := by decide +kernel
theorem dX5_calm_55 : decode cX5_calm 55 = .ok (.iinc 3 1, 3) := by decide +kernel
theorem dX5_calm_58 : decode cX5_calm 58 = .ok (.goto (-44), 3) := by decide +kernel
theorem dX5_calm_61 : decode cX5_calm 61 = .ok (.iinc 2 1, 3) := by decide +kernel
theorem dX5_calm_64 : decode cX5_calm 64 = .ok (.goto (-60), 3) := by decide +kernel
theorem dX5_calm_67 : decode cX5_calm 67 = .ok (.iload_n 1, 1) := by decide +kernel
theorem dX5_calm_68 : decode cX5_calm 68 = .ok (.ifCond .eq 7, 3) := by decide +kernel
theorem dX5_calm_71 : decode cX5_calm 71 = .ok (.iconst 1, 1) := by decide +kernel
theorem dX5_calm_72 : decode cX5_calm 72 = .ok (.goto 4, 3) := by decide +kernel
theorem dX5_calm_75 : decode cX5_calm 75 = .ok (.iconst 0, 1) := by decide +kernel
theorem dX5_calm_76 : decode cX5_calm 76 = .ok (.ireturn, 1) := by decide +kernel
theorem dX5_count_0 : decode cX5_count 0 = .ok (.iconst 0, 1) := by decide +kernel
theorem dX5_count_1 : decode cX5_count 1 = .ok (.istore_n 2, 1) := by decide +kernel
theorem dX5_count_2 : decode cX5_count 2 = .ok (.iconst 0, 1) := by decide +kernel
theorem dX5_count_3 : decode cX5_count 3 = .ok (.istore_n 3, 1) := by decide +kernel
theorem dX5_count_4 : decode cX5_count 4 = .ok (.iconst 0, 1) := by decide +kernel
theorem dX5_count_5 : decode cX5_count 5 = .ok (.istore 4, 2) := by decide +kernel
theorem dX5_count_7 : decode cX5_count 7 = .ok (.iconst 0, 1) := by decide +kernel
theorem dX5_count_8 : decode cX5_count 8 = .ok (.istore 5, 2) := by decide +kernel
theorem dX5_count_10 : decode cX5_count 10 = .ok (.iconst 0, 1) := by decide +kernel
theorem dX5_count_11 : decode cX5_count 11 = .ok (.istore 6, 2) := by decide +kernel
theorem dX5_count_13 : decode cX5_count 13 = .ok (.iload 6, 2) := by decide +kernel
theorem dX5_count_15 : decode cX5_count 15 = .ok (.aload_n 0, 1) := by decide +kernel
theorem dX5_count_16 : decode cX5_count 16 = .ok (.getfield 92, 3) := by decide +kernel
theorem dX5_count_19 : decode cX5_count 19 = .ok (.if_icmp .ge 86, 3) := by decide +kernel
theorem dX5_count_22 : decode cX5_count 22 = .ok (.iload_n 2, 1) := by decide +kernel
theorem dX5_count_23 : decode cX5_count 23 = .ok (.aload_n 0, 1) := by decide +kernel
theorem dX5_count_24 : decode cX5_count 24 = .ok (.getfield 27, 3) := by decide +kernel
theorem dX5_count_27 : decode cX5_count 27 = .ok (.iload 6, 2) := by decide +kernel
theorem dX5_count_29 : decode cX5_count 29 = .ok (.iaload, 1) := by decide +kernel
theorem dX5_count_30 : decode cX5_count 30 = .ok (.iconst 2, 1) := by decide +kernel
theorem dX5_count_31 : decode cX5_count 31 = .ok (.if_icmp .ne 7, 3) := by decide +kernel
theorem dX5_count_34 : decode cX5_count 34 = .ok (.iconst 1, 1) := by decide +kernel
theorem dX5_count_35 : decode cX5_count 35 = .ok (.goto 4, 3) := by decide +kernel
theorem dX5_count_38 : decode cX5_count 38 = .ok (.iconst 0, 1) := by decide +kernel
theorem dX5_count_39 : decode cX5_count 39 = .ok (.iadd, 1) := by decide +kernel
theorem dX5_count_40 : decode cX5_count 40 = .ok (.istore_n 2, 1) := by decide +kernel
theorem dX5_count_41 : decode cX5_count 41 = .ok (.iload_n 3, 1) := by decide +kernel
theorem dX5_count_42 : decode cX5_count 42 = .ok (.aload_n 0, 1) := by decide +kernel
theorem dX5_count_43 : decode cX5_count 43 = .ok (.getfield 27, 3) := by decide +kernel
theorem dX5_count_46 : decode cX5_count 46 = .ok (.iload 6, 2) := by decide +kernel
theorem dX5_count_48 : decode cX5_count 48 = .ok (.iaload, 1) := by decide +kernel
theorem dX5_count_49 : decode cX5_count 49 = .ok (.iconst 3, 1) := by decide +kernel
theorem dX5_count_50 : decode cX5_count 50 = .ok (.if_icmp .ne 7, 3) := by decide +kernel
theorem dX5_count_53 : decode cX5_count 53 = .ok (.iconst 1, 1) := by decide +kernel
theorem dX5_count_54 : decode cX5_count 54 = .ok (.goto 4, 3) := by decide +kernel
theorem dX5_count_57 : decode cX5_count 57 = .ok (.iconst 0, 1) := by decide +kernel
theorem dX5_count_58 : decode cX5_count 58 = .ok (.iadd, 1) := by decide +kernel
theorem dX5_count_59 : decode cX5_count 59 = .ok (.istore_n 3, 1) := by decide +kernel
theorem dX5_count_60 : decode cX5_count 60 = .ok (.iload 4, 2) := by decide +kernel
theorem dX5_count_62 : decode cX5_count 62 = .ok (.aload_n 0, 1) := by decide +kernel
theorem dX5_count_63 : decode cX5_count 63 = .ok (.getfield 33, 3) := by decide +kernel
theorem dX5_count_66 : decode cX5_count 66 = .ok (.iload 6, 2) := by decide +kernel
theorem dX5_count_68 : decode cX5_count 68 = .ok (.iaload, 1) := by decide +kernel
theorem dX5_count_69 : decode cX5_count 69 = .ok (.ifCond .le 7, 3) := by decide +kernel
theorem dX5_count_72 : decode cX5_count 72 = .ok (.iconst 1, 1) := by decide +kernel
theorem dX5_count_73 : decode cX5_count 73 = .ok (.goto 4, 3) := by decide +kernel
theorem dX5_count_76 : decode cX5_count 76 = .ok (.iconst 0, 1) := by decide +kernel
theorem dX5_count_77 : decode cX5_count 77 = .ok (.iadd, 1) := by decide +kernel
theorem dX5_count_78 : decode cX5_count 78 = .ok (.istore 4, 2) := by decide +kernel
theorem dX5_count_80 : decode cX5_count 80 = .ok (.iload 5, 2) := by decide +kernel
theorem dX5_count_82 : decode cX5_count 82 = .ok (.aload_n 0, 1) := by decide +kernel
theorem dX5_count_83 : decode cX5_count 83 = .ok (.iload 6, 2) := by decide +kernel
theorem dX5_count_85 : decode cX5_count 85 = .ok (.invokevirtual 168, 3) := by decide +kernel
theorem dX5_count_88 : decode cX5_count 88 = .ok (.ifCond .eq 7, 3) := by decide +kernel
theorem dX5_count_91 : decode cX5_count 91 = .ok (.iconst 1, 1) := by decide +kernel
theorem dX5_count_92 : decode cX5_count 92 = .ok (.goto 4, 3) := by decide +kernel
theorem dX5_count_95 : decode cX5_count 95 = .ok (.iconst 0, 1) := by decide +kernel
theorem dX5_count_96 : decode cX5_count 96 = .ok (.iadd, 1) := by decide +kernel
theorem dX5_count_97 : decode cX5_count 97 = .ok (.istore 5, 2) := by decide +kernel
theorem dX5_count_99 : decode cX5_count 99 = .ok (.iinc 6 1, 3) := by decide +kernel
theorem dX5_count_102 : decode cX5_count 102 = .ok (.goto (-89), 3) := by decide +kernel
theorem dX5_count_105 : decode cX5_count 105 = .ok (.iconst 0, 1) := by decide +kernel
theorem dX5_count_106 : decode cX5_count 106 = .ok (.istore 6, 2) := by decide +kernel
theorem dX5_count_108 : decode cX5_count 108 = .ok (.iconst 0, 1) := by decide +kernel
theorem dX5_count_109 : decode cX5_count 109 = .ok (.istore 7, 2) := by decide +kernel
theorem dX5_count_111 : decode cX5_count 111 = .ok (.iload 7, 2) := by decide +kernel
theorem dX5_count_113 : decode cX5_count 113 = .ok (.bipush 48, 2) := by decide +kernel
theorem dX5_count_115 : decode cX5_count 115 = .ok (.if_icmp .ge 31, 3) := by decide +kernel
theorem dX5_count_118 : decode cX5_count 118 = .ok (.iload 6, 2) := by decide +kernel
theorem dX5_count_120 : decode cX5_count 120 = .ok (.aload_n 0, 1) := by decide +kernel
theorem dX5_count_121 : decode cX5_count 121 = .ok (.getfield 70, 3) := by decide +kernel
theorem dX5_count_124 : decode cX5_count 124 = .ok (.iload 7, 2) := by decide +kernel
theorem dX5_count_126 : decode cX5_count 126 = .ok (.iaload, 1) := by decide +kernel
theorem dX5_count_127 : decode cX5_count 127 = .ok (.bipush (-4), 2) := by decide +kernel
theorem dX5_count_129 : decode cX5_count 129 = .ok (.if_icmp .eq 7, 3) := by decide +kernel
theorem dX5_count_132 : decode cX5_count 132 = .ok (.iconst 1, 1) := by decide +kernel
theorem dX5_count_133 : decode cX5_count 133 = .ok (.goto 4, 3) := by decide +kernel
theorem dX5_count_136 : decode cX5_count 136 = .ok (.iconst 0, 1) := by decide +kernel
theorem dX5_count_137 : decode cX5_count 137 = .ok (.iadd, 1) := by decide +kernel
theorem dX5_count_138 : decode cX5_count 138 = .ok (.istore 6, 2) := by decide +kernel
theorem dX5_count_140 : decode cX5_count 140 = .ok (.iinc 7 1, 3) := by decide +kernel
theorem dX5_count_143 : decode cX5_count 143 = .ok (.goto (-32), 3) := by decide +kernel
theorem dX5_count_146 : decode cX5_count 146 = .ok (.iload_n 1, 1) := by decide +kernel
theorem dX5_count_147 : decode cX5_count 147 = .ok (.tableswitch 91 0 9 #[53, 58, 63, 68, 73, 78, 80, 82, 85, 88], 53) := by decide +kernel
theorem dX5_count_200 : decode cX5_count 200 = .ok (.aload_n 0, 1) := by decide +kernel
theorem dX5_count_201 : decode cX5_count 201 = .ok (.getfield 7, 3) := by decide +kernel
theorem dX5_count_204 : decode cX5_count 204 = .ok (.ireturn, 1) := by decide +kernel
theorem dX5_count_205 : decode cX5_count 205 = .ok (.aload_n 0, 1) := by decide +kernel
theorem dX5_count_206 : decode cX5_count 206 = .ok (.getfield 13, 3) := by decide +kernel
theorem dX5_count_209 : decode cX5_count 209 = .ok (.ireturn, 1) := by decide +kernel
theorem dX5_count_210 : decode cX5_count 210 = .ok (.aload_n 0, 1) := by decide +kernel
theorem dX5_count_211 : decode cX5_count 211 = .ok (.getfield 89, 3) := by decide +kernel
theorem dX5_count_214 : decode cX5_count 214 = .ok (.ireturn, 1) := by decide +kernel
theorem dX5_count_215 : decode cX5_count 215 = .ok (.aload_n 0, 1) := by decide +kernel
theorem dX5_count_216 : decode cX5_count 216 = .ok (.getfield 92, 3) := by decide +kernel
theorem dX5_count_219 : decode cX5_count 219 = .ok (.ireturn, 1) := by decide +kernel
theorem dX5_count_220 : decode cX5_count 220 = .ok (.aload_n 0, 1) := by decide +kernel
theorem dX5_count_221 : decode cX5_count 221 = .ok (.getfield 122, 3) := by decide +kernel
theorem dX5_count_224 : decode cX5_count 224 = .ok (.ireturn, 1) := by decide +kernel
theorem dX5_count_225 : decode cX5_count 225 = .ok (.iload_n 2, 1) := by decide +kernel
theorem dX5_count_226 : decode cX5_count 226 = .ok (.ireturn, 1) := by decide +kernel
theorem dX5_count_227 : decode cX5_count 227 = .ok (.iload_n 3, 1) := by decide +kernel
theorem dX5_count_228 : decode cX5_count 228 = .ok (.ireturn, 1) := by decide +kernel
theorem dX5_count_229 : decode cX5_count 229 = .ok (.iload 4, 2) := by decide +kernel
theorem dX5_count_231 : decode cX5_count 231 = .ok (.ireturn, 1) := by decide +kernel
theorem dX5_count_232 : decode cX5_count 232 = .ok (.iload 6, 2) := by decide +kernel
theorem dX5_count_234 : decode cX5_count 234 = .ok (.ireturn, 1) := by decide +kernel
theorem dX5_count_235 : decode cX5_count 235 = .ok (.iload 5, 2) := by decide +kernel
theorem dX5_count_237 : decode cX5_count 237 = .ok (.ireturn, 1) := by decide +kernel
theorem dX5_count_238 : decode cX5_count 238 = .ok (.iconst (-1), 1) := by decide +kernel
theorem dX5_count_239 : decode cX5_count 239 = .ok (.ireturn, 1) := by decide +kernel

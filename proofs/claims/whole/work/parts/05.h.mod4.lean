set_option maxHeartbeats 4000000 in
set_option maxRecDepth 100000 in
theorem c_X5_read (l : Launch) (env : Ev) (s0 : Nat) (X : va_W) (u : St) (a0 : Nat) (_xa0 : Nat) (ha0 : At u 20 (0) a0) (v1 : Int32) (v2 : Int32) (hM : MI u) (hV : MV u.2.2) (hNm : Nb u.2.2) : Met l yX5_read [Cond.code yX5_read cX5_read 6 (some .long)] { frames := 2, cells := 0, slots := 0, locals := 46 } (va_Pc [.ref (a0), .int (v1), .int (v2)] (Pr env s0 X u)) (va_Ql (fun r u' => u = u' ∧ r = mread u.2.2 v1 v2) (Po env s0 X) (fun q => s0 ≤ q)) 0 0 (fun q => s0 ≤ q) := by
  refine Met.ofW (cc := cX5_read) (maxL := 6) (ret := (some .long)) (by decide) rfl ?_
  intro p e s m args below meth c s₁ B hml hv
  obtain ⟨rfl, hv⟩ := hv
  have hx := B.exec
  have hb := B.bytes
  have hr := B.returns
  have hts : ∀ ww ∈ TT, ww.before #[.ref (a0), .int (v1), .int (v2)] s = true := fun ww hw => hv.2.1 ww hw _
  have hown : s.vm.findClass RX5 = some m.cls := findClass_of_methodNamed B.named
  have hlocks := B.notSynchronized
  have hF : CallFix p m c cX5_read 6 s #[.ref (a0), .int (v1), .int (v2)] TT RX5 := ⟨hx, hb, hml, hown, hts⟩
  have hB := Bd.entry hv
  have hl := lv_entry ([.ref (a0), .int (v1), .int (v2)]) (n := 6) (Nat.le_of_ble_eq_true rfl)
  rw [lg_entry_eq]
  generalize (lg_sl ([.ref (a0), .int (v1), .int (v2)]) ++ List.replicate (6 - (lg_sl ([.ref (a0), .int (v1), .int (v2)])).length) Slot.unset).toArray = ls at hl ⊢
  have hl : lv_has ls 6 [(0, .ref (a0)), (1, .int (v1)), (2, .int (v2))] := hl
  have hn1 := hV.nth
  have hn2 := hV.ntx
  have hn3 := hV.nst
  have hn4 := hV.nms
  refine lv_aload_n hx hb dX5_read_0 rfl (lv_at hl 0 rfl) ?_
  refine lv_iload_n hx hb dX5_read_1 rfl (lv_at hl 1 rfl) ?_
  refine w_ci (r_V (As := [.int (v1)]) (rest := []) hF hB (c_X5_is l env s0 X u (a0) (0) (ha0) (v1) hM hNm) cv_X5_is tw_3_202 ⟨rfl, rfl, by decide, by decide⟩ (hB.recv ha0 (cn_20 env u (0)) rfl) rfl hl.1 rfl (lv_room (by decide)) dX5_read_2 ⟨Nat.le_of_ble_eq_true rfl, Nat.le_of_ble_eq_true rfl⟩) hB (fun r_1 u_3 H locs hq_2 hB => ?_)
  obtain ⟨rfl, rfl⟩ := hq_2
  refine w_ifeq_b (tgt := 25) hx hb dX5_read_5 (by decide) (fun c_4 => ?_) (fun c_4 => ?_)
  · have hj_5 := Option.isSome_eq_false_iff.mp c_4
    rw [Option.isNone_iff_eq_none] at hj_5
    refine lv_lconst (v := 0) hx hb dX5_read_25 (by decide) ?_
    exact w_lret (v := 0) hF hr hlocks hB (⟨rfl, by simp [mread, mRead, hj_5]⟩) dX5_read_26
  · obtain ⟨j_6, hj_7⟩ := Option.isSome_iff_exists.mp c_4
    obtain ⟨hjl_8, rfl⟩ := ix_some (by have := hNm 55 0 0; omega) hj_7
    refine lv_aload_n hx hb dX5_read_8 rfl (lv_at hl 0 rfl) ?_
    refine lv_iload_n hx hb dX5_read_9 rfl (lv_at hl 2 rfl) ?_
    refine w_ci (r_V (As := [.int (v2)]) (rest := []) hF hB (c_X5_isThing l env s0 X u (a0) (0) (ha0) (v2) hM hNm) cv_X5_isThing tw_3_206 ⟨rfl, rfl, by decide, by decide⟩ (hB.recv ha0 (cn_20 env u (0)) rfl) rfl hl.1 rfl (lv_room (by decide)) dX5_read_10 ⟨Nat.le_of_ble_eq_true rfl, Nat.le_of_ble_eq_true rfl⟩) hB (fun r_9 u_11 H locs hq_10 hB => ?_)
    obtain ⟨rfl, rfl⟩ := hq_10
    refine w_ifeq_b (tgt := 25) hx hb dX5_read_13 (by decide) (fun c_12 => ?_) (fun c_12 => ?_)
    · have hj_13 := Option.isSome_eq_false_iff.mp c_12
      rw [Option.isNone_iff_eq_none] at hj_13
      refine lv_lconst (v := 0) hx hb dX5_read_25 (by decide) ?_
      exact w_lret (v := 0) hF hr hlocks hB (⟨rfl, by simp [mread, mRead, hj_7, hj_13]⟩) dX5_read_26
    · obtain ⟨j_14, hj_15⟩ := Option.isSome_iff_exists.mp c_12
      obtain ⟨hjl_16, rfl⟩ := ix_some (by have := hNm 52 0 0; omega) hj_15
      refine lv_aload_n hx hb dX5_read_16 rfl (lv_at hl 0 rfl) ?_
      refine w_get (v := .ref (sA u 25 0)) (fk := 4) hF hB ha0 (cn_20 env u (0)) rfl in_X5 (by decide) tw_3_99 rfl rfl dX5_read_17 ?_
      refine lv_iload_n hx hb dX5_read_20 rfl (lv_at hl 2 rfl) ?_
      refine w_zald (v := .int (b2i (gB u.2.2 54 (0) (j_14)))) hF hB ⟨hM 25 (by decide), rfl⟩ (cn_25 env u (0)) (by omega) rfl (by decide) dX5_read_21 ?_
      refine w_ifeq_b (tgt := 27) hx hb dX5_read_22 (by decide) (fun c_17 => ?_) (fun c_17 => ?_)
      · refine lv_aload_n hx hb dX5_read_27 rfl (lv_at hl 0 rfl) ?_
        refine w_get (v := .ref (sA u 35 0)) (fk := 14) hF hB ha0 (cn_20 env u (0)) rfl in_X5 (by decide) tw_3_109 rfl rfl dX5_read_28 ?_
        refine lv_bipush (v := nI 12) hx hb dX5_read_31 (by decide) ?_
        refine lv_iload_n hx hb dX5_read_33 rfl (lv_at hl 1 rfl) ?_
        refine w_imul_n hx hb dX5_read_34 ?_
        refine lv_iload_n hx hb dX5_read_35 rfl (lv_at hl 2 rfl) ?_
        refine w_iadd_n hx hb dX5_read_36 ?_
        refine w_zald (v := .int (b2i (gB u.2.2 64 (0) ((12 * j_6) + j_14)))) hF hB ⟨hM 35 (by decide), rfl⟩ (cn_35 env u (0)) (by omega) rfl (by decide) dX5_read_37 ?_
        refine w_ifeq_b (tgt := 53) hx hb dX5_read_38 (by decide) (fun c_18 => ?_) (fun c_18 => ?_)
        · refine lv_aload_n hx hb dX5_read_53 rfl (lv_at hl 0 rfl) ?_
          refine w_get (v := .ref (sA u 27 0)) (fk := 6) hF hB ha0 (cn_20 env u (0)) rfl in_X5 (by decide) tw_3_101 rfl rfl dX5_read_54 ?_
          refine lv_iload_n hx hb dX5_read_57 rfl (lv_at hl 1 rfl) ?_
          refine w_iald (v := .int (nI (gN u.2.2 56 (0) (j_6)))) hF hB ⟨hM 27 (by decide), rfl⟩ (cn_27 env u (0)) (by omega) rfl (by decide) dX5_read_58 ?_
          refine lv_istore_n (lv' := [(3, .int (nI (gN u.2.2 56 (0) (j_6)))), (0, .ref (a0)), (1, .int (nI (j_6))), (2, .int (nI (j_14)))]) hx hb dX5_read_59 rfl hl (by decide) rfl (fun ls hl => ?_)
          refine lv_aload_n hx hb dX5_read_60 rfl (lv_at hl 1 rfl) ?_
          refine w_get (v := .ref (sA u 41 0)) (fk := 20) hF hB ha0 (cn_20 env u (0)) rfl in_X5 (by decide) tw_3_115 rfl rfl dX5_read_61 ?_
          refine lv_iload_n hx hb dX5_read_64 rfl (lv_at hl 0 rfl) ?_
          refine w_iald (v := .int (nI (gN u.2.2 70 (0) (gN u.2.2 56 (0) (j_6))))) hF hB ⟨hM 41 (by decide), rfl⟩ (cn_41 env u (0)) (by have := hV.site (j_6); omega) rfl (by decide) dX5_read_65 ?_
          refine lv_iconst (v := nI 1) hx hb dX5_read_66 (by decide) ?_
          refine lv_isub hx hb dX5_read_67 ?_
          refine lv_istore (lv' := [(4, .int ((nI (gN u.2.2 70 (0) (gN u.2.2 56 (0) (j_6)))) - (nI 1))), (3, .int (nI (gN u.2.2 56 (0) (j_6)))), (0, .ref (a0)), (1, .int (nI (j_6))), (2, .int (nI (j_14)))]) hx hb dX5_read_68 hl (by decide) rfl (fun ls hl => ?_)
          refine wloopDH (σ := Heap × List Loc × Array Slot) (G := fun x => W p l e _ s m _ below meth c x.1 x.2.1 _ _ _ (F0 m 70 x.2.2 [])) (P := fun d_19 x => (lastL (mRdQ u.2.2 j_6 j_14) (mRdV u.2.2 j_14 (gN u.2.2 56 0 j_6)) (gN u.2.2 70 0 (gN u.2.2 56 0 j_6)) = lastL (mRdQ u.2.2 j_6 j_14) (mRdV u.2.2 j_14 (gN u.2.2 56 0 j_6)) (d_19) ∧ d_19 ≤ gN u.2.2 70 0 (gN u.2.2 56 0 j_6)) ∧ Bd env s0 X u s x.1 x.2.1 ∧ lv_has x.2.2 6 [(0, .ref (a0)), (1, .int (nI (j_6))), (2, .int (nI (j_14))), (3, .int (nI (gN u.2.2 56 (0) (j_6)))), (4, .int (nI (d_19) - nI 1))]) ?_ ?_ (gN u.2.2 70 0 (gN u.2.2 56 0 j_6)) (_, _, ls) ⟨⟨rfl, Nat.le_refl _⟩, hB, lv_sub hl [2, 3, 4, 1, 0] rfl⟩
          · rintro ⟨H, locs, ls⟩ ⟨⟨hv_20, hle_21⟩, hB, hl⟩
            replace hB : Bd env s0 X u s H locs := hB
            replace hl : lv_has ls 6 [(0, .ref (a0)), (1, .int (nI (j_6))), (2, .int (nI (j_14))), (3, .int (nI (gN u.2.2 56 (0) (j_6)))), (4, .int (nI (0) - nI 1))] := hl
            show W p l e _ s m _ below meth c H locs _ _ _ (F0 m 70 ls [])
            refine lv_iload hx hb dX5_read_70 (lv_at hl 4 rfl) ?_
            refine lv_if_lt (tgt := 134) hx hb dX5_read_72 (by decide) (fun _ => ?_) (fun c => absurd (by decide) c)
            refine lv_lconst (v := 0) hx hb dX5_read_134 (by decide) ?_
            exact w_lret (v := 0) hF hr hlocks hB (⟨rfl, by simp only [mread, mRead, hj_7, hj_15, c_17, c_18, if_false, Bool.false_eq_true]; rw [hv_20]; rfl⟩) dX5_read_135
          · rintro d_19 ⟨H, locs, ls⟩ ⟨⟨hv_20, hle_21⟩, hB, hl⟩ ih70
            replace hB : Bd env s0 X u s H locs := hB
            replace hl : lv_has ls 6 [(0, .ref (a0)), (1, .int (nI (j_6))), (2, .int (nI (j_14))), (3, .int (nI (gN u.2.2 56 (0) (j_6)))), (4, .int (nI (d_19 + 1) - nI 1))] := hl
            rw [nI_s1] at hl
            show W p l e _ s m _ below meth c H locs _ _ _ (F0 m 70 ls [])
            have := hNm 70 0 (gN u.2.2 56 0 j_6)
            have := hNm 56 0 j_6
            have := hV.cm (gN u.2.2 56 0 j_6)
            have := hV.site j_6
            refine lv_iload hx hb dX5_read_70 (lv_at hl 4 rfl) ?_
            refine w_iflt_n (tgt := 134) (by omega) hx hb dX5_read_72 (by decide) ?_
            refine lv_aload_n hx hb dX5_read_75 rfl (lv_at hl 0 rfl) ?_
            refine w_get (v := .ref (sA u 40 0)) (fk := 19) hF hB ha0 (cn_20 env u (0)) rfl in_X5 (by decide) tw_3_114 rfl rfl dX5_read_76 ?_
            refine lv_sipush (v := nI 150) hx hb dX5_read_79 (by decide) ?_
            refine lv_iload_n hx hb dX5_read_82 rfl (lv_at hl 3 rfl) ?_
            refine w_imul_n hx hb dX5_read_83 ?_
            refine lv_iload hx hb dX5_read_84 (lv_at hl 4 rfl) ?_
            refine w_iadd_n hx hb dX5_read_86 ?_
            refine w_iald (v := .int (nI (gN u.2.2 69 (0) ((150 * (gN u.2.2 56 (0) (j_6))) + d_19)))) hF hB ⟨hM 40 (by decide), rfl⟩ (cn_40 env u (0)) (by have := hV.site (j_6); omega) rfl (by decide) dX5_read_87 ?_
            refine lv_istore (lv' := [(5, .int (nI (gN u.2.2 69 (0) ((150 * (gN u.2.2 56 (0) (j_6))) + d_19)))), (0, .ref (a0)), (1, .int (nI (j_6))), (2, .int (nI (j_14))), (3, .int (nI (gN u.2.2 56 (0) (j_6)))), (4, .int (nI (d_19)))]) hx hb dX5_read_88 hl (by decide) rfl (fun ls hl => ?_)
            refine lv_aload_n hx hb dX5_read_90 rfl (lv_at hl 1 rfl) ?_
            refine w_get (v := .ref (sA u 35 0)) (fk := 14) hF hB ha0 (cn_20 env u (0)) rfl in_X5 (by decide) tw_3_109 rfl rfl dX5_read_91 ?_
            refine lv_bipush (v := nI 12) hx hb dX5_read_94 (by decide) ?_
            refine lv_iload hx hb dX5_read_96 (lv_at hl 0 rfl) ?_
            refine w_imul_n hx hb dX5_read_98 ?_
            refine lv_iload_n hx hb dX5_read_99 rfl (lv_at hl 3 rfl) ?_
            refine w_iadd_n hx hb dX5_read_100 ?_
            refine w_zald (v := .int (b2i (gB u.2.2 64 (0) ((12 * (gN u.2.2 69 (0) ((150 * (gN u.2.2 56 (0) (j_6))) + d_19))) + j_14)))) hF hB ⟨hM 35 (by decide), rfl⟩ (cn_35 env u (0)) (by have := hV.came ((150 * (gN u.2.2 56 (0) (j_6))) + d_19); have := hV.site (j_6); omega) rfl (by decide) dX5_read_101 ?_
            refine w_ifeq_b (tgt := 128) hx hb dX5_read_102 (by decide) (fun c_22 => ?_) (fun c_22 => ?_)
            · refine lv_iinc (v := nI (d_19) - nI 1) (lv' := [(4, .int (nI (d_19) - nI 1)), (5, .int (nI (gN u.2.2 69 (0) ((150 * (gN u.2.2 56 (0) (j_6))) + d_19)))), (0, .ref (a0)), (1, .int (nI (j_6))), (2, .int (nI (j_14))), (3, .int (nI (gN u.2.2 56 (0) (j_6))))]) hx hb dX5_read_128 hl (k := 5) rfl (nI_dec _) (by decide) rfl (fun ls hl => ?_)
              refine lv_goto (tgt := 70) hx hb dX5_read_131 (by decide) ?_
              exact ih70 (H, locs, ls) ⟨⟨hv_20.trans (by rw [lastL_s, if_neg (by simp [mRdQ, mCame, c_22])]), by omega⟩, hB, lv_sub hl [2, 3, 4, 5, 0] rfl⟩
            · refine lv_aload_n hx hb dX5_read_105 rfl (lv_at hl 1 rfl) ?_
              refine lv_iload_n hx hb dX5_read_106 rfl (lv_at hl 2 rfl) ?_
              refine lv_iload hx hb dX5_read_107 (lv_at hl 0 rfl) ?_
              refine w_ci (r_V (As := [.int (nI (j_6)), .int (nI (gN u.2.2 69 (0) ((150 * (gN u.2.2 56 (0) (j_6))) + d_19)))]) (rest := []) hF hB (c_X5_has l env s0 X u (a0) (0) (ha0) (j_6) (gN u.2.2 69 (0) ((150 * (gN u.2.2 56 (0) (j_6))) + d_19)) hM hV hNm (by have := hV.ntx; omega) (hV.came _)) cv_X5_has tw_3_210 ⟨rfl, rfl, by decide, by decide⟩ (hB.recv ha0 (cn_20 env u (0)) rfl) rfl hl.1 rfl (lv_room (by decide)) dX5_read_109 ⟨Nat.le_of_ble_eq_true rfl, Nat.le_of_ble_eq_true rfl⟩) hB (fun r_23 u_25 H locs hq_24 hB => ?_)
              obtain ⟨rfl, rfl⟩ := hq_24
              refine w_ifeq_b (tgt := 128) hx hb dX5_read_112 (by decide) (fun c_26 => ?_) (fun c_26 => ?_)
              · refine lv_iinc (v := nI (d_19) - nI 1) (lv' := [(4, .int (nI (d_19) - nI 1)), (5, .int (nI (gN u.2.2 69 (0) ((150 * (gN u.2.2 56 (0) (j_6))) + d_19)))), (0, .ref (a0)), (1, .int (nI (j_6))), (2, .int (nI (j_14))), (3, .int (nI (gN u.2.2 56 (0) (j_6))))]) hx hb dX5_read_128 hl (k := 5) rfl (nI_dec _) (by decide) rfl (fun ls hl => ?_)
                refine lv_goto (tgt := 70) hx hb dX5_read_131 (by decide) ?_
                exact ih70 (H, locs, ls) ⟨⟨hv_20.trans (by rw [lastL_s, if_neg (by simp [mRdQ, mCame, c_22, c_26])]), by omega⟩, hB, lv_sub hl [2, 3, 4, 5, 0] rfl⟩
              · refine lv_aload_n hx hb dX5_read_115 rfl (lv_at hl 1 rfl) ?_
                refine w_get (v := .ref (sA u 36 0)) (fk := 15) hF hB ha0 (cn_20 env u (0)) rfl in_X5 (by decide) tw_3_110 rfl rfl dX5_read_116 ?_
                refine lv_bipush (v := nI 12) hx hb dX5_read_119 (by decide) ?_
                refine lv_iload hx hb dX5_read_121 (lv_at hl 0 rfl) ?_
                refine w_imul_n hx hb dX5_read_123 ?_
                refine lv_iload_n hx hb dX5_read_124 rfl (lv_at hl 3 rfl) ?_
                refine w_iadd_n hx hb dX5_read_125 ?_
                refine w_lald (v := .long (gJ u.2.2 65 (0) ((12 * (gN u.2.2 69 (0) ((150 * (gN u.2.2 56 (0) (j_6))) + d_19))) + j_14))) hF hB ⟨hM 36 (by decide), rfl⟩ (cn_36 env u (0)) (by have := hV.came ((150 * (gN u.2.2 56 (0) (j_6))) + d_19); have := hV.site (j_6); omega) rfl (by decide) dX5_read_126 ?_
                exact w_lret (v := gJ u.2.2 65 (0) ((12 * (gN u.2.2 69 (0) ((150 * (gN u.2.2 56 (0) (j_6))) + d_19))) + j_14)) hF hr hlocks hB (⟨rfl, by simp only [mread, mRead, hj_7, hj_15, c_17, c_18, if_false, Bool.false_eq_true]; rw [hv_20, lastL_s, if_pos (by simp [mRdQ, mCame, c_22, c_26])]; rfl⟩) dX5_read_127
        · refine lv_aload_n hx hb dX5_read_41 rfl (lv_at hl 0 rfl) ?_
          refine w_get (v := .ref (sA u 36 0)) (fk := 15) hF hB ha0 (cn_20 env u (0)) rfl in_X5 (by decide) tw_3_110 rfl rfl dX5_read_42 ?_
          refine lv_bipush (v := nI 12) hx hb dX5_read_45 (by decide) ?_
          refine lv_iload_n hx hb dX5_read_47 rfl (lv_at hl 1 rfl) ?_
          refine w_imul_n hx hb dX5_read_48 ?_
          refine lv_iload_n hx hb dX5_read_49 rfl (lv_at hl 2 rfl) ?_
          refine w_iadd_n hx hb dX5_read_50 ?_
          refine w_lald (v := .long (gJ u.2.2 65 (0) ((12 * j_6) + j_14))) hF hB ⟨hM 36 (by decide), rfl⟩ (cn_36 env u (0)) (by omega) rfl (by decide) dX5_read_51 ?_
          exact w_lret (v := gJ u.2.2 65 (0) ((12 * j_6) + j_14)) hF hr hlocks hB (⟨rfl, by simp [mread, mRead, hj_7, hj_15, c_17, c_18]⟩) dX5_read_52
      · refine lv_lconst (v := 0) hx hb dX5_read_25 (by decide) ?_
        exact w_lret (v := 0) hF hr hlocks hB (⟨rfl, by simp [mread, mRead, hj_7, hj_15, c_17]⟩) dX5_read_26
set_option maxHeartbeats 4000000 in
set_option maxRecDepth 100000 in
theorem c_X5_latest (l : Launch) (env : Ev) (s0 : Nat) (X : va_W) (u : St) (a0 : Nat) (_xa0 : Nat) (ha0 : At u 20 (0) a0) (v1 : Int32) (v2 : Int32) (hM : MI u) (hV : MV u.2.2) (hNm : Nb u.2.2) : Met l yX5_latest [Cond.code yX5_latest cX5_latest 5 (some .long)] { frames := 2, cells := 0, slots := 0, locals := 46 } (va_Pc [.ref (a0), .int (v1), .int (v2)] (Pr env s0 X u)) (va_Ql (fun r u' => u = u' ∧ r = mlatest u.2.2 v1 v2) (Po env s0 X) (fun q => s0 ≤ q)) 0 0 (fun q => s0 ≤ q) := by
  refine Met.ofW (cc := cX5_latest) (maxL := 5) (ret := (some .long)) (by decide) rfl ?_
  intro p e s m args below meth c s₁ B hml hv
  obtain ⟨rfl, hv⟩ := hv
  have hx := B.exec
  have hb := B.bytes
  have hr := B.returns
  have hts : ∀ ww ∈ TT, ww.before #[.ref (a0), .int (v1), .int (v2)] s = true := fun ww hw => hv.2.1 ww hw _
  have hown : s.vm.findClass RX5 = some m.cls := findClass_of_methodNamed B.named
  have hlocks := B.notSynchronized
  have hF : CallFix p m c cX5_latest 5 s #[.ref (a0), .int (v1), .int (v2)] TT RX5 := ⟨hx, hb, hml, hown, hts⟩
  have hB := Bd.entry hv
  have hl := lv_entry ([.ref (a0), .int (v1), .int (v2)]) (n := 5) (Nat.le_of_ble_eq_true rfl)
  rw [lg_entry_eq]
  generalize (lg_sl ([.ref (a0), .int (v1), .int (v2)]) ++ List.replicate (5 - (lg_sl ([.ref (a0), .int (v1), .int (v2)])).length) Slot.unset).toArray = ls at hl ⊢
  have hl : lv_has ls 5 [(0, .ref (a0)), (1, .int (v1)), (2, .int (v2))] := hl
  have hn1 := hV.nth
  have hn2 := hV.ntx
  have hn3 := hV.nst
  have hn4 := hV.nms
  refine lv_aload_n hx hb dX5_latest_0 rfl (lv_at hl 0 rfl) ?_
  refine lv_iload_n hx hb dX5_latest_1 rfl (lv_at hl 1 rfl) ?_
  refine w_ci (r_V (As := [.int (v1)]) (rest := []) hF hB (c_X5_isSite l env s0 X u (a0) (0) (ha0) (v1) hM hNm) cv_X5_isSite tw_3_190 ⟨rfl, rfl, by decide, by decide⟩ (hB.recv ha0 (cn_20 env u (0)) rfl) rfl hl.1 rfl (lv_room (by decide)) dX5_latest_2 ⟨Nat.le_of_ble_eq_true rfl, Nat.le_of_ble_eq_true rfl⟩) hB (fun r_1 u_3 H locs hq_2 hB => ?_)
  obtain ⟨rfl, rfl⟩ := hq_2
  refine w_ifeq_b (tgt := 25) hx hb dX5_latest_5 (by decide) (fun c_4 => ?_) (fun c_4 => ?_)
  · have hj_5 := Option.isSome_eq_false_iff.mp c_4
    rw [Option.isNone_iff_eq_none] at hj_5
    refine lv_lconst (v := 0) hx hb dX5_latest_25 (by decide) ?_
    exact w_lret (v := 0) hF hr hlocks hB (⟨rfl, by simp [mlatest, hj_5]⟩) dX5_latest_26
  · obtain ⟨j_6, hj_7⟩ := Option.isSome_iff_exists.mp c_4
    obtain ⟨hjl_8, rfl⟩ := ix_some (by have := hNm 50 0 0; omega) hj_7
    refine lv_aload_n hx hb dX5_latest_8 rfl (lv_at hl 0 rfl) ?_
    refine lv_iload_n hx hb dX5_latest_9 rfl (lv_at hl 2 rfl) ?_
    refine w_ci (r_V (As := [.int (v2)]) (rest := []) hF hB (c_X5_isThing l env s0 X u (a0) (0) (ha0) (v2) hM hNm) cv_X5_isThing tw_3_206 ⟨rfl, rfl, by decide, by decide⟩ (hB.recv ha0 (cn_20 env u (0)) rfl) rfl hl.1 rfl (lv_room (by decide)) dX5_latest_10 ⟨Nat.le_of_ble_eq_true rfl, Nat.le_of_ble_eq_true rfl⟩) hB (fun r_9 u_11 H locs hq_10 hB => ?_)
    obtain ⟨rfl, rfl⟩ := hq_10
    refine w_ifeq_b (tgt := 25) hx hb dX5_latest_13 (by decide) (fun c_12 => ?_) (fun c_12 => ?_)
    · have hj_13 := Option.isSome_eq_false_iff.mp c_12
      rw [Option.isNone_iff_eq_none] at hj_13
      refine lv_lconst (v := 0) hx hb dX5_latest_25 (by decide) ?_
      exact w_lret (v := 0) hF hr hlocks hB (⟨rfl, by simp [mlatest, hj_7, hj_13]⟩) dX5_latest_26
    · obtain ⟨j_14, hj_15⟩ := Option.isSome_iff_exists.mp c_12
      obtain ⟨hjl_16, rfl⟩ := ix_some (by have := hNm 52 0 0; omega) hj_15
      refine lv_aload_n hx hb dX5_latest_16 rfl (lv_at hl 0 rfl) ?_
      refine w_get (v := .ref (sA u 25 0)) (fk := 4) hF hB ha0 (cn_20 env u (0)) rfl in_X5 (by decide) tw_3_99 rfl rfl dX5_latest_17 ?_
      refine lv_iload_n hx hb dX5_latest_20 rfl (lv_at hl 2 rfl) ?_
      refine w_zald (v := .int (b2i (gB u.2.2 54 (0) (j_14)))) hF hB ⟨hM 25 (by decide), rfl⟩ (cn_25 env u (0)) (by omega) rfl (by decide) dX5_latest_21 ?_
      refine w_ifeq_b (tgt := 27) hx hb dX5_latest_22 (by decide) (fun c_17 => ?_) (fun c_17 => ?_)
      · refine lv_aload_n hx hb dX5_latest_27 rfl (lv_at hl 0 rfl) ?_
        refine w_get (v := .ref (sA u 41 0)) (fk := 20) hF hB ha0 (cn_20 env u (0)) rfl in_X5 (by decide) tw_3_115 rfl rfl dX5_latest_28 ?_
        refine lv_iload_n hx hb dX5_latest_31 rfl (lv_at hl 1 rfl) ?_
        refine w_iald (v := .int (nI (gN u.2.2 70 (0) (j_6)))) hF hB ⟨hM 41 (by decide), rfl⟩ (cn_41 env u (0)) (by omega) rfl (by decide) dX5_latest_32 ?_
        refine lv_iconst (v := nI 1) hx hb dX5_latest_33 (by decide) ?_
        refine lv_isub hx hb dX5_latest_34 ?_
        refine lv_istore_n (lv' := [(3, .int ((nI (gN u.2.2 70 (0) (j_6))) - (nI 1))), (0, .ref (a0)), (1, .int (nI (j_6))), (2, .int (nI (j_14)))]) hx hb dX5_latest_35 rfl hl (by decide) rfl (fun ls hl => ?_)
        refine wloopDH (σ := Heap × List Loc × Array Slot) (G := fun x => W p l e _ s m _ below meth c x.1 x.2.1 _ _ _ (F0 m 36 x.2.2 [])) (P := fun d_18 x => (lastL (mLaQ u.2.2 j_6 j_14) (mRdV u.2.2 j_14 j_6) (gN u.2.2 70 0 j_6) = lastL (mLaQ u.2.2 j_6 j_14) (mRdV u.2.2 j_14 j_6) (d_18) ∧ d_18 ≤ gN u.2.2 70 0 j_6) ∧ Bd env s0 X u s x.1 x.2.1 ∧ lv_has x.2.2 5 [(0, .ref (a0)), (1, .int (nI (j_6))), (2, .int (nI (j_14))), (3, .int (nI (d_18) - nI 1))]) ?_ ?_ (gN u.2.2 70 0 j_6) (_, _, ls) ⟨⟨rfl, Nat.le_refl _⟩, hB, lv_sub hl [1, 2, 3, 0] rfl⟩
        · rintro ⟨H, locs, ls⟩ ⟨⟨hv_19, hle_20⟩, hB, hl⟩
          replace hB : Bd env s0 X u s H locs := hB
          replace hl : lv_has ls 5 [(0, .ref (a0)), (1, .int (nI (j_6))), (2, .int (nI (j_14))), (3, .int (nI (0) - nI 1))] := hl
          show W p l e _ s m _ below meth c H locs _ _ _ (F0 m 36 ls [])
          refine lv_iload_n hx hb dX5_latest_36 rfl (lv_at hl 3 rfl) ?_
          refine lv_if_lt (tgt := 88) hx hb dX5_latest_37 (by decide) (fun _ => ?_) (fun c => absurd (by decide) c)
          refine lv_lconst (v := 0) hx hb dX5_latest_88 (by decide) ?_
          exact w_lret (v := 0) hF hr hlocks hB (⟨rfl, by simp only [mlatest, hj_7, hj_15, c_17, if_false, Bool.false_eq_true]; rw [hv_19]; rfl⟩) dX5_latest_89
        · rintro d_18 ⟨H, locs, ls⟩ ⟨⟨hv_19, hle_20⟩, hB, hl⟩ ih36
          replace hB : Bd env s0 X u s H locs := hB
          replace hl : lv_has ls 5 [(0, .ref (a0)), (1, .int (nI (j_6))), (2, .int (nI (j_14))), (3, .int (nI (d_18 + 1) - nI 1))] := hl
          rw [nI_s1] at hl
          show W p l e _ s m _ below meth c H locs _ _ _ (F0 m 36 ls [])
          have := hNm 70 0 j_6
          have := hV.cm j_6
          refine lv_iload_n hx hb dX5_latest_36 rfl (lv_at hl 3 rfl) ?_
          refine w_iflt_n (tgt := 88) (by omega) hx hb dX5_latest_37 (by decide) ?_
          refine lv_aload_n hx hb dX5_latest_40 rfl (lv_at hl 0 rfl) ?_
          refine w_get (v := .ref (sA u 40 0)) (fk := 19) hF hB ha0 (cn_20 env u (0)) rfl in_X5 (by decide) tw_3_114 rfl rfl dX5_latest_41 ?_
          refine lv_sipush (v := nI 150) hx hb dX5_latest_44 (by decide) ?_
          refine lv_iload_n hx hb dX5_latest_47 rfl (lv_at hl 1 rfl) ?_
          refine w_imul_n hx hb dX5_latest_48 ?_
          refine lv_iload_n hx hb dX5_latest_49 rfl (lv_at hl 3 rfl) ?_
          refine w_iadd_n hx hb dX5_latest_50 ?_
          refine w_iald (v := .int (nI (gN u.2.2 69 (0) ((150 * j_6) + d_18)))) hF hB ⟨hM 40 (by decide), rfl⟩ (cn_40 env u (0)) (by omega) rfl (by decide) dX5_latest_51 ?_
          refine lv_istore (lv' := [(4, .int (nI (gN u.2.2 69 (0) ((150 * j_6) + d_18)))), (0, .ref (a0)), (1, .int (nI (j_6))), (2, .int (nI (j_14))), (3, .int (nI (d_18)))]) hx hb dX5_latest_52 hl (by decide) rfl (fun ls hl => ?_)
          refine lv_aload_n hx hb dX5_latest_54 rfl (lv_at hl 1 rfl) ?_
          refine w_get (v := .ref (sA u 35 0)) (fk := 14) hF hB ha0 (cn_20 env u (0)) rfl in_X5 (by decide) tw_3_109 rfl rfl dX5_latest_55 ?_
          refine lv_bipush (v := nI 12) hx hb dX5_latest_58 (by decide) ?_
          refine lv_iload hx hb dX5_latest_60 (lv_at hl 0 rfl) ?_
          refine w_imul_n hx hb dX5_latest_62 ?_
          refine lv_iload_n hx hb dX5_latest_63 rfl (lv_at hl 3 rfl) ?_
          refine w_iadd_n hx hb dX5_latest_64 ?_
          refine w_zald (v := .int (b2i (gB u.2.2 64 (0) ((12 * (gN u.2.2 69 (0) ((150 * j_6) + d_18))) + j_14)))) hF hB ⟨hM 35 (by decide), rfl⟩ (cn_35 env u (0)) (by have := hV.came ((150 * j_6) + d_18); omega) rfl (by decide) dX5_latest_65 ?_
          refine w_ifeq_b (tgt := 82) hx hb dX5_latest_66 (by decide) (fun c_21 => ?_) (fun c_21 => ?_)
          · refine lv_iinc (v := nI (d_18) - nI 1) (lv' := [(3, .int (nI (d_18) - nI 1)), (4, .int (nI (gN u.2.2 69 (0) ((150 * j_6) + d_18)))), (0, .ref (a0)), (1, .int (nI (j_6))), (2, .int (nI (j_14)))]) hx hb dX5_latest_82 hl (k := 4) rfl (nI_dec _) (by decide) rfl (fun ls hl => ?_)
            refine lv_goto (tgt := 36) hx hb dX5_latest_85 (by decide) ?_
            exact ih36 (H, locs, ls) ⟨⟨hv_19.trans (by rw [lastL_s, if_neg (by simp [mLaQ, mCame, c_21])]), by omega⟩, hB, lv_sub hl [2, 3, 4, 0] rfl⟩
          · refine lv_aload_n hx hb dX5_latest_69 rfl (lv_at hl 1 rfl) ?_
            refine w_get (v := .ref (sA u 36 0)) (fk := 15) hF hB ha0 (cn_20 env u (0)) rfl in_X5 (by decide) tw_3_110 rfl rfl dX5_latest_70 ?_
            refine lv_bipush (v := nI 12) hx hb dX5_latest_73 (by decide) ?_
            refine lv_iload hx hb dX5_latest_75 (lv_at hl 0 rfl) ?_
            refine w_imul_n hx hb dX5_latest_77 ?_
            refine lv_iload_n hx hb dX5_latest_78 rfl (lv_at hl 3 rfl) ?_
            refine w_iadd_n hx hb dX5_latest_79 ?_
            refine w_lald (v := .long (gJ u.2.2 65 (0) ((12 * (gN u.2.2 69 (0) ((150 * j_6) + d_18))) + j_14))) hF hB ⟨hM 36 (by decide), rfl⟩ (cn_36 env u (0)) (by have := hV.came ((150 * j_6) + d_18); omega) rfl (by decide) dX5_latest_80 ?_
            exact w_lret (v := gJ u.2.2 65 (0) ((12 * (gN u.2.2 69 (0) ((150 * j_6) + d_18))) + j_14)) hF hr hlocks hB (⟨rfl, by simp only [mlatest, hj_7, hj_15, c_17, if_false, Bool.false_eq_true]; rw [hv_19, lastL_s, if_pos (by simp [mLaQ, mCame, c_21])]; rfl⟩) dX5_latest_81
      · refine lv_lconst (v := 0) hx hb dX5_latest_25 (by decide) ?_
        exact w_lret (v := 0) hF hr hlocks hB (⟨rfl, by simp [mlatest, hj_7, hj_15, c_17]⟩) dX5_latest_26
set_option maxHeartbeats 4000000 in
set_option maxRecDepth 100000 in
theorem c_X5_counted (l : Launch) (env : Ev) (s0 : Nat) (X : va_W) (u : St) (a0 : Nat) (_xa0 : Nat) (ha0 : At u 20 (0) a0) (v1 : Int32) (v2 : Int32) (v3 : Int32) (hM : MI u) (hV : MV u.2.2) (hNm : Nb u.2.2) : Met l yX5_counted [Cond.code yX5_counted cX5_counted 9 (some .long)] { frames := 2, cells := 0, slots := 0, locals := 46 } (va_Pc [.ref (a0), .int (v1), .int (v2), .int (v3)] (Pr env s0 X u)) (va_Ql (fun r u' => u = u' ∧ r = mcounted u.2.2 v1 v2 v3) (Po env s0 X) (fun q => s0 ≤ q)) 0 0 (fun q => s0 ≤ q) := by
  refine Met.ofW (cc := cX5_counted) (maxL := 9) (ret := (some .long)) (by decide) rfl ?_
  intro p e s m args below meth c s₁ B hml hv
  obtain ⟨rfl, hv⟩ := hv
  have hx := B.exec
  have hb := B.bytes
  have hr := B.returns
  have hts : ∀ ww ∈ TT, ww.before #[.ref (a0), .int (v1), .int (v2), .int (v3)] s = true := fun ww hw => hv.2.1 ww hw _
  have hown : s.vm.findClass RX5 = some m.cls := findClass_of_methodNamed B.named
  have hlocks := B.notSynchronized
  have hF : CallFix p m c cX5_counted 9 s #[.ref (a0), .int (v1), .int (v2), .int (v3)] TT RX5 := ⟨hx, hb, hml, hown, hts⟩
  have hB := Bd.entry hv
  have hl := lv_entry ([.ref (a0), .int (v1), .int (v2), .int (v3)]) (n := 9) (Nat.le_of_ble_eq_true rfl)
  rw [lg_entry_eq]
  generalize (lg_sl ([.ref (a0), .int (v1), .int (v2), .int (v3)]) ++ List.replicate (9 - (lg_sl ([.ref (a0), .int (v1), .int (v2), .int (v3)])).length) Slot.unset).toArray = ls at hl ⊢
  have hl : lv_has ls 9 [(0, .ref (a0)), (1, .int (v1)), (2, .int (v2)), (3, .int (v3))] := hl
  have hn1 := hV.nth
  have hn2 := hV.ntx
  have hn3 := hV.nst
  have hn4 := hV.nms
  refine lv_aload_n hx hb dX5_counted_0 rfl (lv_at hl 0 rfl) ?_
  refine lv_iload_n hx hb dX5_counted_1 rfl (lv_at hl 1 rfl) ?_
  refine w_ci (r_V (As := [.int (v1)]) (rest := []) hF hB (c_X5_is l env s0 X u (a0) (0) (ha0) (v1) hM hNm) cv_X5_is tw_3_202 ⟨rfl, rfl, by decide, by decide⟩ (hB.recv ha0 (cn_20 env u (0)) rfl) rfl hl.1 rfl (lv_room (by decide)) dX5_counted_2 ⟨Nat.le_of_ble_eq_true rfl, Nat.le_of_ble_eq_true rfl⟩) hB (fun r_1 u_3 H locs hq_2 hB => ?_)
  obtain ⟨rfl, rfl⟩ := hq_2
  refine w_ifeq_b (tgt := 32) hx hb dX5_counted_5 (by decide) (fun c_4 => ?_) (fun c_4 => ?_)
  · have hj_5 := Option.isSome_eq_false_iff.mp c_4
    rw [Option.isNone_iff_eq_none] at hj_5
    refine lv_lconst (v := 0) hx hb dX5_counted_32 (by decide) ?_
    exact w_lret (v := 0) hF hr hlocks hB (⟨rfl, by simp [mcounted, hj_5]⟩) dX5_counted_33
  · obtain ⟨j_6, hj_7⟩ := Option.isSome_iff_exists.mp c_4
    obtain ⟨hjl_8, rfl⟩ := ix_some (by have := hNm 55 0 0; omega) hj_7
    refine lv_aload_n hx hb dX5_counted_8 rfl (lv_at hl 0 rfl) ?_
    refine lv_iload_n hx hb dX5_counted_9 rfl (lv_at hl 2 rfl) ?_
    refine w_ci (r_V (As := [.int (v2)]) (rest := []) hF hB (c_X5_isThing l env s0 X u (a0) (0) (ha0) (v2) hM hNm) cv_X5_isThing tw_3_206 ⟨rfl, rfl, by decide, by decide⟩ (hB.recv ha0 (cn_20 env u (0)) rfl) rfl hl.1 rfl (lv_room (by decide)) dX5_counted_10 ⟨Nat.le_of_ble_eq_true rfl, Nat.le_of_ble_eq_true rfl⟩) hB (fun r_9 u_11 H locs hq_10 hB => ?_)
    obtain ⟨rfl, rfl⟩ := hq_10
    refine w_ifeq_b (tgt := 32) hx hb dX5_counted_13 (by decide) (fun c_12 => ?_) (fun c_12 => ?_)
    · have hj_13 := Option.isSome_eq_false_iff.mp c_12
      rw [Option.isNone_iff_eq_none] at hj_13
      refine lv_lconst (v := 0) hx hb dX5_counted_32 (by decide) ?_
      exact w_lret (v := 0) hF hr hlocks hB (⟨rfl, by simp [mcounted, hj_7, hj_13]⟩) dX5_counted_33
    · obtain ⟨j_14, hj_15⟩ := Option.isSome_iff_exists.mp c_12
      obtain ⟨hjl_16, rfl⟩ := ix_some (by have := hNm 52 0 0; omega) hj_15
      refine lv_aload_n hx hb dX5_counted_16 rfl (lv_at hl 0 rfl) ?_
      refine w_get (v := .ref (sA u 25 0)) (fk := 4) hF hB ha0 (cn_20 env u (0)) rfl in_X5 (by decide) tw_3_99 rfl rfl dX5_counted_17 ?_
      refine lv_iload_n hx hb dX5_counted_20 rfl (lv_at hl 2 rfl) ?_
      refine w_zald (v := .int (b2i (gB u.2.2 54 (0) (j_14)))) hF hB ⟨hM 25 (by decide), rfl⟩ (cn_25 env u (0)) (by omega) rfl (by decide) dX5_counted_21 ?_
      refine w_ifeq_b (tgt := 32) hx hb dX5_counted_22 (by decide) (fun c_17 => ?_) (fun c_17 => ?_)
      · refine lv_lconst (v := 0) hx hb dX5_counted_32 (by decide) ?_
        exact w_lret (v := 0) hF hr hlocks hB (⟨rfl, by simp [mcounted, hj_7, hj_15, c_17]⟩) dX5_counted_33
      · refine lv_iload_n hx hb dX5_counted_25 rfl (lv_at hl 3 rfl) ?_
        refine w_ci (r_S (As := [.int (v3)]) (rest := []) hF hB (c_X5_isElement l env s0 X u (v3) ) cs_X5_isElement tw_3_218 ⟨rfl, rfl, by decide, by decide⟩ rfl hl.1 rfl (lv_room (by decide)) dX5_counted_26 ⟨Nat.le_of_ble_eq_true rfl, Nat.le_of_ble_eq_true rfl⟩) hB (fun r_18 u_20 H locs hq_19 hB => ?_)
        obtain ⟨rfl, rfl⟩ := hq_19
        refine w_ifne_b (tgt := 34) hx hb dX5_counted_29 (by decide) (fun c_21 => ?_) (fun c_21 => ?_)
        · obtain ⟨j_22, hj_23⟩ := Option.isSome_iff_exists.mp c_21
          obtain ⟨hjl_24, rfl⟩ := ix_some (by decide) hj_23
          refine lv_aload_n hx hb dX5_counted_34 rfl (lv_at hl 0 rfl) ?_
          refine w_get (v := .ref (sA u 38 0)) (fk := 17) hF hB ha0 (cn_20 env u (0)) rfl in_X5 (by decide) tw_3_112 rfl rfl dX5_counted_35 ?_
          refine lv_bipush (v := nI 96) hx hb dX5_counted_38 (by decide) ?_
          refine lv_iload_n hx hb dX5_counted_40 rfl (lv_at hl 1 rfl) ?_
          refine w_imul_n hx hb dX5_counted_41 ?_
          refine lv_bipush (v := nI 8) hx hb dX5_counted_42 (by decide) ?_
          refine lv_iload_n hx hb dX5_counted_44 rfl (lv_at hl 2 rfl) ?_
          refine w_imul_n hx hb dX5_counted_45 ?_
          refine w_iadd_n hx hb dX5_counted_46 ?_
          refine lv_iload_n hx hb dX5_counted_47 rfl (lv_at hl 3 rfl) ?_
          refine w_iadd_n hx hb dX5_counted_48 ?_
          refine w_lald (v := .long (gJ u.2.2 67 (0) (((96 * j_6) + (8 * j_14)) + j_22))) hF hB ⟨hM 38 (by decide), rfl⟩ (cn_38 env u (0)) (by omega) rfl (by decide) dX5_counted_49 ?_
          refine lv_lstore (lv' := [(4, .long (gJ u.2.2 67 (0) (((96 * j_6) + (8 * j_14)) + j_22))), (0, .ref (a0)), (1, .int (nI (j_6))), (2, .int (nI (j_14))), (3, .int (nI (j_22)))]) hx hb dX5_counted_50 hl (by decide) rfl (fun ls hl => ?_)
          refine lv_aload_n hx hb dX5_counted_52 rfl (lv_at hl 1 rfl) ?_
          refine w_get (v := .ref (sA u 27 0)) (fk := 6) hF hB ha0 (cn_20 env u (0)) rfl in_X5 (by decide) tw_3_101 rfl rfl dX5_counted_53 ?_
          refine lv_iload_n hx hb dX5_counted_56 rfl (lv_at hl 2 rfl) ?_
          refine w_iald (v := .int (nI (gN u.2.2 56 (0) (j_6)))) hF hB ⟨hM 27 (by decide), rfl⟩ (cn_27 env u (0)) (by omega) rfl (by decide) dX5_counted_57 ?_
          refine lv_istore (lv' := [(6, .int (nI (gN u.2.2 56 (0) (j_6)))), (4, .long (gJ u.2.2 67 (0) (((96 * j_6) + (8 * j_14)) + j_22))), (0, .ref (a0)), (1, .int (nI (j_6))), (2, .int (nI (j_14))), (3, .int (nI (j_22)))]) hx hb dX5_counted_58 hl (by decide) rfl (fun ls hl => ?_)
          refine lv_iconst (v := nI 0) hx hb dX5_counted_60 (by decide) ?_
          refine lv_istore (lv' := [(7, .int (nI (0))), (6, .int (nI (gN u.2.2 56 (0) (j_6)))), (4, .long (gJ u.2.2 67 (0) (((96 * j_6) + (8 * j_14)) + j_22))), (0, .ref (a0)), (1, .int (nI (j_6))), (2, .int (nI (j_14))), (3, .int (nI (j_22)))]) hx hb dX5_counted_61 hl (by decide) rfl (fun ls hl => ?_)
          have ea_26 : gJ u.2.2 67 0 (96 * j_6 + 8 * j_14 + j_22) + sumL (mCtV u.2.2 j_6 j_14 j_22) (0) = gJ u.2.2 67 (0) (((96 * j_6) + (8 * j_14)) + j_22) := by simp [allN_0, anyN_0, sumL_0, mCtV, mCame, hj_7, hj_15, c_17, hj_23] <;> omega
          refine wloopH (σ := Heap × List Loc × Array Slot) (G := fun x => W p l e _ s m _ below meth c x.1 x.2.1 _ _ _ (F0 m 63 x.2.2 [])) (P := fun i_25 x => (True) ∧ Bd env s0 X u s x.1 x.2.1 ∧ lv_has x.2.2 9 [(0, .ref (a0)), (1, .int (nI (j_6))), (2, .int (nI (j_14))), (3, .int (nI (j_22))), (4, .long (gJ u.2.2 67 0 (96 * j_6 + 8 * j_14 + j_22) + sumL (mCtV u.2.2 j_6 j_14 j_22) (i_25))), (6, .int (nI (gN u.2.2 56 (0) (j_6)))), (7, .int (nI (i_25)))]) (N := gN u.2.2 70 0 (gN u.2.2 56 0 j_6)) ?_ 0 (_, _, ls) (Nat.zero_le _) ⟨trivial, hB, by show lv_has ls 9 [(0, .ref (a0)), (1, .int (nI (j_6))), (2, .int (nI (j_14))), (3, .int (nI (j_22))), (4, .long (gJ u.2.2 67 0 (96 * j_6 + 8 * j_14 + j_22) + sumL (mCtV u.2.2 j_6 j_14 j_22) (0))), (6, .int (nI (gN u.2.2 56 (0) (j_6)))), (7, .int (nI (0)))]; rw [ea_26]; exact lv_sub hl [3, 4, 5, 6, 2, 1, 0] rfl⟩
          rintro i_25 ⟨H, locs, ls⟩ hi_27 ⟨hv_28, hB, hl⟩ ih63
          replace hB : Bd env s0 X u s H locs := hB
          replace hl : lv_has ls 9 [(0, .ref (a0)), (1, .int (nI (j_6))), (2, .int (nI (j_14))), (3, .int (nI (j_22))), (4, .long (gJ u.2.2 67 0 (96 * j_6 + 8 * j_14 + j_22) + sumL (mCtV u.2.2 j_6 j_14 j_22) (i_25))), (6, .int (nI (gN u.2.2 56 (0) (j_6)))), (7, .int (nI (i_25)))] := hl
          show W p l e _ s m _ below meth c H locs _ _ _ (F0 m 63 ls [])
          have := hNm 70 0 (gN u.2.2 56 0 j_6)
          have := hNm 56 0 j_6
          have := hV.cm (gN u.2.2 56 0 j_6)
          have := hV.site j_6
          refine lv_iload hx hb dX5_counted_63 (lv_at hl 6 rfl) ?_
          refine lv_aload_n hx hb dX5_counted_65 rfl (lv_at hl 0 rfl) ?_
          refine w_get (v := .ref (sA u 41 0)) (fk := 20) hF hB ha0 (cn_20 env u (0)) rfl in_X5 (by decide) tw_3_115 rfl rfl dX5_counted_66 ?_
          refine lv_iload hx hb dX5_counted_69 (lv_at hl 5 rfl) ?_
          refine w_iald (v := .int (nI (gN u.2.2 70 (0) (gN u.2.2 56 (0) (j_6))))) hF hB ⟨hM 41 (by decide), rfl⟩ (cn_41 env u (0)) (by have := hV.site (j_6); omega) rfl (by decide) dX5_counted_71 ?_
          refine w_icge_n (tgt := 133) (by omega) (by have := hNm 70 (0) (gN u.2.2 56 (0) (j_6)); have := hNm 56 (0) (j_6); omega) hx hb dX5_counted_72 (by decide) (fun c_29 => ?_) (fun c_29 => ?_)
          · refine lv_lload hx hb dX5_counted_133 (lv_at hl 4 rfl) ?_
            exact w_lret (v := gJ u.2.2 67 0 (96 * j_6 + 8 * j_14 + j_22) + sumL (mCtV u.2.2 j_6 j_14 j_22) (i_25)) hF hr hlocks hB (⟨rfl, by rw [show i_25 = gN u.2.2 70 0 (gN u.2.2 56 0 j_6) by omega]; simp [mcounted, hj_7, hj_15, c_17, hj_23]⟩) dX5_counted_135
          · refine lv_aload_n hx hb dX5_counted_75 rfl (lv_at hl 0 rfl) ?_
            refine w_get (v := .ref (sA u 40 0)) (fk := 19) hF hB ha0 (cn_20 env u (0)) rfl in_X5 (by decide) tw_3_114 rfl rfl dX5_counted_76 ?_
            refine lv_sipush (v := nI 150) hx hb dX5_counted_79 (by decide) ?_
            refine lv_iload hx hb dX5_counted_82 (lv_at hl 5 rfl) ?_
            refine w_imul_n hx hb dX5_counted_84 ?_
            refine lv_iload hx hb dX5_counted_85 (lv_at hl 6 rfl) ?_
            refine w_iadd_n hx hb dX5_counted_87 ?_
            refine w_iald (v := .int (nI (gN u.2.2 69 (0) ((150 * (gN u.2.2 56 (0) (j_6))) + i_25)))) hF hB ⟨hM 40 (by decide), rfl⟩ (cn_40 env u (0)) (by have := hV.site (j_6); omega) rfl (by decide) dX5_counted_88 ?_
            refine lv_istore (lv' := [(8, .int (nI (gN u.2.2 69 (0) ((150 * (gN u.2.2 56 (0) (j_6))) + i_25)))), (0, .ref (a0)), (1, .int (nI (j_6))), (2, .int (nI (j_14))), (3, .int (nI (j_22))), (4, .long (gJ u.2.2 67 0 (96 * j_6 + 8 * j_14 + j_22) + sumL (mCtV u.2.2 j_6 j_14 j_22) (i_25))), (6, .int (nI (gN u.2.2 56 (0) (j_6)))), (7, .int (nI (i_25)))]) hx hb dX5_counted_89 hl (by decide) rfl (fun ls hl => ?_)
            refine lv_lload hx hb dX5_counted_91 (lv_at hl 5 rfl) ?_
            refine lv_aload_n hx hb dX5_counted_93 rfl (lv_at hl 1 rfl) ?_
            refine lv_iload_n hx hb dX5_counted_94 rfl (lv_at hl 2 rfl) ?_
            refine lv_iload hx hb dX5_counted_95 (lv_at hl 0 rfl) ?_
            refine w_ci (r_V (As := [.int (nI (j_6)), .int (nI (gN u.2.2 69 (0) ((150 * (gN u.2.2 56 (0) (j_6))) + i_25)))]) (rest := [.long (gJ u.2.2 67 0 (96 * j_6 + 8 * j_14 + j_22) + sumL (mCtV u.2.2 j_6 j_14 j_22) (i_25))]) hF hB (c_X5_has l env s0 X u (a0) (0) (ha0) (j_6) (gN u.2.2 69 (0) ((150 * (gN u.2.2 56 (0) (j_6))) + i_25)) hM hV hNm (by have := hV.ntx; omega) (hV.came _)) cv_X5_has tw_3_210 ⟨rfl, rfl, by decide, by decide⟩ (hB.recv ha0 (cn_20 env u (0)) rfl) rfl hl.1 rfl (lv_room (Nat.le_of_ble_eq_true rfl)) dX5_counted_97 ⟨Nat.le_of_ble_eq_true rfl, Nat.le_of_ble_eq_true rfl⟩) hB (fun r_30 u_32 H locs hq_31 hB => ?_)
            obtain ⟨rfl, rfl⟩ := hq_31
            refine w_ifeq_b (tgt := 123) hx hb dX5_counted_100 (by decide) (fun c_33 => ?_) (fun c_33 => ?_)
            · refine lv_lconst (v := 0) hx hb dX5_counted_123 (by decide) ?_
              refine lv_ladd hx hb dX5_counted_124 ?_
              refine lv_lstore (lv' := [(4, .long ((gJ u.2.2 67 0 (96 * j_6 + 8 * j_14 + j_22) + sumL (mCtV u.2.2 j_6 j_14 j_22) (i_25)) + 0)), (8, .int (nI (gN u.2.2 69 (0) ((150 * (gN u.2.2 56 (0) (j_6))) + i_25)))), (0, .ref (a0)), (1, .int (nI (j_6))), (2, .int (nI (j_14))), (3, .int (nI (j_22))), (6, .int (nI (gN u.2.2 56 (0) (j_6)))), (7, .int (nI (i_25)))]) hx hb dX5_counted_125 hl (by decide) rfl (fun ls hl => ?_)
              refine lv_iinc (v := nI (i_25 + 1)) (lv' := [(7, .int (nI (i_25 + 1))), (4, .long ((gJ u.2.2 67 0 (96 * j_6 + 8 * j_14 + j_22) + sumL (mCtV u.2.2 j_6 j_14 j_22) (i_25)) + 0)), (8, .int (nI (gN u.2.2 69 (0) ((150 * (gN u.2.2 56 (0) (j_6))) + i_25)))), (0, .ref (a0)), (1, .int (nI (j_6))), (2, .int (nI (j_14))), (3, .int (nI (j_22))), (6, .int (nI (gN u.2.2 56 (0) (j_6))))]) hx hb dX5_counted_127 hl (k := 7) rfl (nI_add _ _) (by decide) rfl (fun ls hl => ?_)
              refine lv_goto (tgt := 63) hx hb dX5_counted_130 (by decide) ?_
              have ea_34 : gJ u.2.2 67 0 (96 * j_6 + 8 * j_14 + j_22) + sumL (mCtV u.2.2 j_6 j_14 j_22) (i_25 + 1) = (gJ u.2.2 67 0 (96 * j_6 + 8 * j_14 + j_22) + sumL (mCtV u.2.2 j_6 j_14 j_22) (i_25)) + 0 := by first | (simp [allN_s, anyN_s, cntN_s, sumL_s, Int64.add_assoc, mCtV, mCame, c_29, c_33] <;> omega) | grind [allN_s, anyN_s, cntN_s, sumL_s, Int64.add_assoc, mCtV, mCame]
              exact ih63 (H, locs, ls) (by omega) ⟨trivial, hB, by show lv_has ls 9 [(0, .ref (a0)), (1, .int (nI (j_6))), (2, .int (nI (j_14))), (3, .int (nI (j_22))), (4, .long (gJ u.2.2 67 0 (96 * j_6 + 8 * j_14 + j_22) + sumL (mCtV u.2.2 j_6 j_14 j_22) (i_25 + 1))), (6, .int (nI (gN u.2.2 56 (0) (j_6)))), (7, .int (nI (i_25 + 1)))]; rw [ea_34]; exact lv_sub hl [3, 4, 5, 6, 1, 7, 0] rfl⟩
            · refine lv_aload_n hx hb dX5_counted_103 rfl (lv_at hl 1 rfl) ?_
              refine w_get (v := .ref (sA u 38 0)) (fk := 17) hF hB ha0 (cn_20 env u (0)) rfl in_X5 (by decide) tw_3_112 rfl rfl dX5_counted_104 ?_
              refine lv_bipush (v := nI 96) hx hb dX5_counted_107 (by decide) ?_
              refine lv_iload hx hb dX5_counted_109 (lv_at hl 0 rfl) ?_
              refine w_imul_n hx hb dX5_counted_111 ?_
              refine lv_bipush (v := nI 8) hx hb dX5_counted_112 (by decide) ?_
              refine lv_iload_n hx hb dX5_counted_114 rfl (lv_at hl 3 rfl) ?_
              refine w_imul_n hx hb dX5_counted_115 ?_
              refine w_iadd_n hx hb dX5_counted_116 ?_
              refine lv_iload_n hx hb dX5_counted_117 rfl (lv_at hl 4 rfl) ?_
              refine w_iadd_n hx hb dX5_counted_118 ?_
              refine w_lald (v := .long (gJ u.2.2 67 (0) (((96 * (gN u.2.2 69 (0) ((150 * (gN u.2.2 56 (0) (j_6))) + i_25))) + (8 * j_14)) + j_22))) hF hB ⟨hM 38 (by decide), rfl⟩ (cn_38 env u (0)) (by have := hV.came ((150 * (gN u.2.2 56 (0) (j_6))) + i_25); have := hV.site (j_6); omega) rfl (by decide) dX5_counted_119 ?_
              refine lv_goto (tgt := 124) hx hb dX5_counted_120 (by decide) ?_
              refine lv_ladd hx hb dX5_counted_124 ?_
              refine lv_lstore (lv' := [(4, .long ((gJ u.2.2 67 0 (96 * j_6 + 8 * j_14 + j_22) + sumL (mCtV u.2.2 j_6 j_14 j_22) (i_25)) + (gJ u.2.2 67 (0) (((96 * (gN u.2.2 69 (0) ((150 * (gN u.2.2 56 (0) (j_6))) + i_25))) + (8 * j_14)) + j_22)))), (8, .int (nI (gN u.2.2 69 (0) ((150 * (gN u.2.2 56 (0) (j_6))) + i_25)))), (0, .ref (a0)), (1, .int (nI (j_6))), (2, .int (nI (j_14))), (3, .int (nI (j_22))), (6, .int (nI (gN u.2.2 56 (0) (j_6)))), (7, .int (nI (i_25)))]) hx hb dX5_counted_125 hl (by decide) rfl (fun ls hl => ?_)
              refine lv_iinc (v := nI (i_25 + 1)) (lv' := [(7, .int (nI (i_25 + 1))), (4, .long ((gJ u.2.2 67 0 (96 * j_6 + 8 * j_14 + j_22) + sumL (mCtV u.2.2 j_6 j_14 j_22) (i_25)) + (gJ u.2.2 67 (0) (((96 * (gN u.2.2 69 (0) ((150 * (gN u.2.2 56 (0) (j_6))) + i_25))) + (8 * j_14)) + j_22)))), (8, .int (nI (gN u.2.2 69 (0) ((150 * (gN u.2.2 56 (0) (j_6))) + i_25)))), (0, .ref (a0)), (1, .int (nI (j_6))), (2, .int (nI (j_14))), (3, .int (nI (j_22))), (6, .int (nI (gN u.2.2 56 (0) (j_6))))]) hx hb dX5_counted_127 hl (k := 7) rfl (nI_add _ _) (by decide) rfl (fun ls hl => ?_)
              refine lv_goto (tgt := 63) hx hb dX5_counted_130 (by decide) ?_
              have ea_35 : gJ u.2.2 67 0 (96 * j_6 + 8 * j_14 + j_22) + sumL (mCtV u.2.2 j_6 j_14 j_22) (i_25 + 1) = (gJ u.2.2 67 0 (96 * j_6 + 8 * j_14 + j_22) + sumL (mCtV u.2.2 j_6 j_14 j_22) (i_25)) + (gJ u.2.2 67 (0) (((96 * (gN u.2.2 69 (0) ((150 * (gN u.2.2 56 (0) (j_6))) + i_25))) + (8 * j_14)) + j_22)) := by first | (simp [allN_s, anyN_s, cntN_s, sumL_s, Int64.add_assoc, mCtV, mCame, c_29, c_33] <;> omega) | grind [allN_s, anyN_s, cntN_s, sumL_s, Int64.add_assoc, mCtV, mCame]
              exact ih63 (H, locs, ls) (by omega) ⟨trivial, hB, by show lv_has ls 9 [(0, .ref (a0)), (1, .int (nI (j_6))), (2, .int (nI (j_14))), (3, .int (nI (j_22))), (4, .long (gJ u.2.2 67 0 (96 * j_6 + 8 * j_14 + j_22) + sumL (mCtV u.2.2 j_6 j_14 j_22) (i_25 + 1))), (6, .int (nI (gN u.2.2 56 (0) (j_6)))), (7, .int (nI (i_25 + 1)))]; rw [ea_35]; exact lv_sub hl [3, 4, 5, 6, 1, 7, 0] rfl⟩
        · have hj_36 := Option.isSome_eq_false_iff.mp c_21
          rw [Option.isNone_iff_eq_none] at hj_36
          refine lv_lconst (v := 0) hx hb dX5_counted_32 (by decide) ?_
          exact w_lret (v := 0) hF hr hlocks hB (⟨rfl, by simp [mcounted, hj_7, hj_15, c_17, hj_36]⟩) dX5_counted_33
set_option maxHeartbeats 4000000 in
set_option maxRecDepth 100000 in
theorem c_X5_sum (l : Launch) (env : Ev) (s0 : Nat) (X : va_W) (u : St) (a0 : Nat) (_xa0 : Nat) (ha0 : At u 20 (0) a0) (v1 : Int32) (v2 : Int32) (v3 : Int32) (hM : MI u) (hV : MV u.2.2) (hNm : Nb u.2.2) : Met l yX5_sum [Cond.code yX5_sum cX5_sum 7 (some .long)] { frames := 2, cells := 0, slots := 0, locals := 46 } (va_Pc [.ref (a0), .int (v1), .int (v2), .int (v3)] (Pr env s0 X u)) (va_Ql (fun r u' => u = u' ∧ r = msum u.2.2 v1 v2 v3) (Po env s0 X) (fun q => s0 ≤ q)) 0 0 (fun q => s0 ≤ q) := by
  refine Met.ofW (cc := cX5_sum) (maxL := 7) (ret := (some .long)) (by decide) rfl ?_
  intro p e s m args below meth c s₁ B hml hv
  obtain ⟨rfl, hv⟩ := hv
  have hx := B.exec
  have hb := B.bytes
  have hr := B.returns
  have hts : ∀ ww ∈ TT, ww.before #[.ref (a0), .int (v1), .int (v2), .int (v3)] s = true := fun ww hw => hv.2.1 ww hw _
  have hown : s.vm.findClass RX5 = some m.cls := findClass_of_methodNamed B.named
  have hlocks := B.notSynchronized
  have hF : CallFix p m c cX5_sum 7 s #[.ref (a0), .int (v1), .int (v2), .int (v3)] TT RX5 := ⟨hx, hb, hml, hown, hts⟩
  have hB := Bd.entry hv
  have hl := lv_entry ([.ref (a0), .int (v1), .int (v2), .int (v3)]) (n := 7) (Nat.le_of_ble_eq_true rfl)
  rw [lg_entry_eq]
  generalize (lg_sl ([.ref (a0), .int (v1), .int (v2), .int (v3)]) ++ List.replicate (7 - (lg_sl ([.ref (a0), .int (v1), .int (v2), .int (v3)])).length) Slot.unset).toArray = ls at hl ⊢
  have hl : lv_has ls 7 [(0, .ref (a0)), (1, .int (v1)), (2, .int (v2)), (3, .int (v3))] := hl
  have hn1 := hV.nth
  have hn2 := hV.ntx
  have hn3 := hV.nst
  have hn4 := hV.nms
  refine lv_aload_n hx hb dX5_sum_0 rfl (lv_at hl 0 rfl) ?_
  refine lv_iload_n hx hb dX5_sum_1 rfl (lv_at hl 1 rfl) ?_
  refine w_ci (r_V (As := [.int (v1)]) (rest := []) hF hB (c_X5_isSite l env s0 X u (a0) (0) (ha0) (v1) hM hNm) cv_X5_isSite tw_3_190 ⟨rfl, rfl, by decide, by decide⟩ (hB.recv ha0 (cn_20 env u (0)) rfl) rfl hl.1 rfl (lv_room (by decide)) dX5_sum_2 ⟨Nat.le_of_ble_eq_true rfl, Nat.le_of_ble_eq_true rfl⟩) hB (fun r_1 u_3 H locs hq_2 hB => ?_)
  obtain ⟨rfl, rfl⟩ := hq_2
  refine w_ifeq_b (tgt := 32) hx hb dX5_sum_5 (by decide) (fun c_4 => ?_) (fun c_4 => ?_)
  · have hj_5 := Option.isSome_eq_false_iff.mp c_4
    rw [Option.isNone_iff_eq_none] at hj_5
    refine lv_lconst (v := 0) hx hb dX5_sum_32 (by decide) ?_
    exact w_lret (v := 0) hF hr hlocks hB (⟨rfl, by simp [msum, hj_5]⟩) dX5_sum_33
  · obtain ⟨j_6, hj_7⟩ := Option.isSome_iff_exists.mp c_4
    obtain ⟨hjl_8, rfl⟩ := ix_some (by have := hNm 50 0 0; omega) hj_7
    refine lv_aload_n hx hb dX5_sum_8 rfl (lv_at hl 0 rfl) ?_
    refine lv_iload_n hx hb dX5_sum_9 rfl (lv_at hl 2 rfl) ?_
    refine w_ci (r_V (As := [.int (v2)]) (rest := []) hF hB (c_X5_isThing l env s0 X u (a0) (0) (ha0) (v2) hM hNm) cv_X5_isThing tw_3_206 ⟨rfl, rfl, by decide, by decide⟩ (hB.recv ha0 (cn_20 env u (0)) rfl) rfl hl.1 rfl (lv_room (by decide)) dX5_sum_10 ⟨Nat.le_of_ble_eq_true rfl, Nat.le_of_ble_eq_true rfl⟩) hB (fun r_9 u_11 H locs hq_10 hB => ?_)
    obtain ⟨rfl, rfl⟩ := hq_10
    refine w_ifeq_b (tgt := 32) hx hb dX5_sum_13 (by decide) (fun c_12 => ?_) (fun c_12 => ?_)
    · have hj_13 := Option.isSome_eq_false_iff.mp c_12
      rw [Option.isNone_iff_eq_none] at hj_13
      refine lv_lconst (v := 0) hx hb dX5_sum_32 (by decide) ?_
      exact w_lret (v := 0) hF hr hlocks hB (⟨rfl, by simp [msum, hj_7, hj_13]⟩) dX5_sum_33
    · obtain ⟨j_14, hj_15⟩ := Option.isSome_iff_exists.mp c_12
      obtain ⟨hjl_16, rfl⟩ := ix_some (by have := hNm 52 0 0; omega) hj_15
      refine lv_aload_n hx hb dX5_sum_16 rfl (lv_at hl 0 rfl) ?_
      refine w_get (v := .ref (sA u 25 0)) (fk := 4) hF hB ha0 (cn_20 env u (0)) rfl in_X5 (by decide) tw_3_99 rfl rfl dX5_sum_17 ?_
      refine lv_iload_n hx hb dX5_sum_20 rfl (lv_at hl 2 rfl) ?_
      refine w_zald (v := .int (b2i (gB u.2.2 54 (0) (j_14)))) hF hB ⟨hM 25 (by decide), rfl⟩ (cn_25 env u (0)) (by omega) rfl (by decide) dX5_sum_21 ?_
      refine w_ifeq_b (tgt := 32) hx hb dX5_sum_22 (by decide) (fun c_17 => ?_) (fun c_17 => ?_)
      · refine lv_lconst (v := 0) hx hb dX5_sum_32 (by decide) ?_
        exact w_lret (v := 0) hF hr hlocks hB (⟨rfl, by simp [msum, hj_7, hj_15, c_17]⟩) dX5_sum_33
      · refine lv_iload_n hx hb dX5_sum_25 rfl (lv_at hl 3 rfl) ?_
        refine w_ci (r_S (As := [.int (v3)]) (rest := []) hF hB (c_X5_isElement l env s0 X u (v3) ) cs_X5_isElement tw_3_218 ⟨rfl, rfl, by decide, by decide⟩ rfl hl.1 rfl (lv_room (by decide)) dX5_sum_26 ⟨Nat.le_of_ble_eq_true rfl, Nat.le_of_ble_eq_true rfl⟩) hB (fun r_18 u_20 H locs hq_19 hB => ?_)
        obtain ⟨rfl, rfl⟩ := hq_19
        refine w_ifne_b (tgt := 34) hx hb dX5_sum_29 (by decide) (fun c_21 => ?_) (fun c_21 => ?_)
        · obtain ⟨j_22, hj_23⟩ := Option.isSome_iff_exists.mp c_21
          obtain ⟨hjl_24, rfl⟩ := ix_some (by decide) hj_23
          refine lv_lconst (v := 0) hx hb dX5_sum_34 (by decide) ?_
          refine lv_lstore (lv' := [(4, .long (0)), (0, .ref (a0)), (1, .int (nI (j_6))), (2, .int (nI (j_14))), (3, .int (nI (j_22)))]) hx hb dX5_sum_35 hl (by decide) rfl (fun ls hl => ?_)
          refine lv_iconst (v := nI 0) hx hb dX5_sum_37 (by decide) ?_
          refine lv_istore (lv' := [(6, .int (nI (0))), (4, .long (0)), (0, .ref (a0)), (1, .int (nI (j_6))), (2, .int (nI (j_14))), (3, .int (nI (j_22)))]) hx hb dX5_sum_38 hl (by decide) rfl (fun ls hl => ?_)
          have ea_26 : sumL (mSuV u.2.2 j_6 j_14 j_22) (0) = 0 := by simp [allN_0, anyN_0, sumL_0, mSuV, mCame, hj_7, hj_15, c_17, hj_23] <;> omega
          refine wloopH (σ := Heap × List Loc × Array Slot) (G := fun x => W p l e _ s m _ below meth c x.1 x.2.1 _ _ _ (F0 m 40 x.2.2 [])) (P := fun i_25 x => (True) ∧ Bd env s0 X u s x.1 x.2.1 ∧ lv_has x.2.2 7 [(0, .ref (a0)), (1, .int (nI (j_6))), (2, .int (nI (j_14))), (3, .int (nI (j_22))), (4, .long (sumL (mSuV u.2.2 j_6 j_14 j_22) (i_25))), (6, .int (nI (i_25)))]) (N := gN u.2.2 70 0 j_6) ?_ 0 (_, _, ls) (Nat.zero_le _) ⟨trivial, hB, by show lv_has ls 7 [(0, .ref (a0)), (1, .int (nI (j_6))), (2, .int (nI (j_14))), (3, .int (nI (j_22))), (4, .long (sumL (mSuV u.2.2 j_6 j_14 j_22) (0))), (6, .int (nI (0)))]; rw [ea_26]; exact lv_sub hl [2, 3, 4, 5, 1, 0] rfl⟩
          rintro i_25 ⟨H, locs, ls⟩ hi_27 ⟨hv_28, hB, hl⟩ ih40
          replace hB : Bd env s0 X u s H locs := hB
          replace hl : lv_has ls 7 [(0, .ref (a0)), (1, .int (nI (j_6))), (2, .int (nI (j_14))), (3, .int (nI (j_22))), (4, .long (sumL (mSuV u.2.2 j_6 j_14 j_22) (i_25))), (6, .int (nI (i_25)))] := hl
          show W p l e _ s m _ below meth c H locs _ _ _ (F0 m 40 ls [])
          have := hNm 70 0 j_6
          have := hV.cm j_6
          refine lv_iload hx hb dX5_sum_40 (lv_at hl 5 rfl) ?_
          refine lv_aload_n hx hb dX5_sum_42 rfl (lv_at hl 0 rfl) ?_
          refine w_get (v := .ref (sA u 41 0)) (fk := 20) hF hB ha0 (cn_20 env u (0)) rfl in_X5 (by decide) tw_3_115 rfl rfl dX5_sum_43 ?_
          refine lv_iload_n hx hb dX5_sum_46 rfl (lv_at hl 1 rfl) ?_
          refine w_iald (v := .int (nI (gN u.2.2 70 (0) (j_6)))) hF hB ⟨hM 41 (by decide), rfl⟩ (cn_41 env u (0)) (by omega) rfl (by decide) dX5_sum_47 ?_
          refine w_icge_n (tgt := 90) (by omega) (by have := hNm 70 (0) (j_6); omega) hx hb dX5_sum_48 (by decide) (fun c_29 => ?_) (fun c_29 => ?_)
          · refine lv_lload hx hb dX5_sum_90 (lv_at hl 4 rfl) ?_
            exact w_lret (v := sumL (mSuV u.2.2 j_6 j_14 j_22) (i_25)) hF hr hlocks hB (⟨rfl, by rw [show i_25 = gN u.2.2 70 0 j_6 by omega]; simp [msum, hj_7, hj_15, c_17, hj_23]⟩) dX5_sum_92
          · refine lv_lload hx hb dX5_sum_51 (lv_at hl 4 rfl) ?_
            refine lv_aload_n hx hb dX5_sum_53 rfl (lv_at hl 0 rfl) ?_
            refine w_get (v := .ref (sA u 38 0)) (fk := 17) hF hB ha0 (cn_20 env u (0)) rfl in_X5 (by decide) tw_3_112 rfl rfl dX5_sum_54 ?_
            refine lv_bipush (v := nI 96) hx hb dX5_sum_57 (by decide) ?_
            refine lv_aload_n hx hb dX5_sum_59 rfl (lv_at hl 0 rfl) ?_
            refine w_get (v := .ref (sA u 40 0)) (fk := 19) hF hB ha0 (cn_20 env u (0)) rfl in_X5 (by decide) tw_3_114 rfl rfl dX5_sum_60 ?_
            refine lv_sipush (v := nI 150) hx hb dX5_sum_63 (by decide) ?_
            refine lv_iload_n hx hb dX5_sum_66 rfl (lv_at hl 1 rfl) ?_
            refine w_imul_n hx hb dX5_sum_67 ?_
            refine lv_iload hx hb dX5_sum_68 (lv_at hl 5 rfl) ?_
            refine w_iadd_n hx hb dX5_sum_70 ?_
            refine w_iald (v := .int (nI (gN u.2.2 69 (0) ((150 * j_6) + i_25)))) hF hB ⟨hM 40 (by decide), rfl⟩ (cn_40 env u (0)) (by omega) rfl (by decide) dX5_sum_71 ?_
            refine w_imul_n hx hb dX5_sum_72 ?_
            refine lv_bipush (v := nI 8) hx hb dX5_sum_73 (by decide) ?_
            refine lv_iload_n hx hb dX5_sum_75 rfl (lv_at hl 2 rfl) ?_
            refine w_imul_n hx hb dX5_sum_76 ?_
            refine w_iadd_n hx hb dX5_sum_77 ?_
            refine lv_iload_n hx hb dX5_sum_78 rfl (lv_at hl 3 rfl) ?_
            refine w_iadd_n hx hb dX5_sum_79 ?_
            refine w_lald (v := .long (gJ u.2.2 67 (0) (((96 * (gN u.2.2 69 (0) ((150 * j_6) + i_25))) + (8 * j_14)) + j_22))) hF hB ⟨hM 38 (by decide), rfl⟩ (cn_38 env u (0)) (by have := hV.came ((150 * j_6) + i_25); omega) rfl (by decide) dX5_sum_80 ?_
            refine lv_ladd hx hb dX5_sum_81 ?_
            refine lv_lstore (lv' := [(4, .long ((sumL (mSuV u.2.2 j_6 j_14 j_22) (i_25)) + (gJ u.2.2 67 (0) (((96 * (gN u.2.2 69 (0) ((150 * j_6) + i_25))) + (8 * j_14)) + j_22)))), (0, .ref (a0)), (1, .int (nI (j_6))), (2, .int (nI (j_14))), (3, .int (nI (j_22))), (6, .int (nI (i_25)))]) hx hb dX5_sum_82 hl (by decide) rfl (fun ls hl => ?_)
            refine lv_iinc (v := nI (i_25 + 1)) (lv' := [(6, .int (nI (i_25 + 1))), (4, .long ((sumL (mSuV u.2.2 j_6 j_14 j_22) (i_25)) + (gJ u.2.2 67 (0) (((96 * (gN u.2.2 69 (0) ((150 * j_6) + i_25))) + (8 * j_14)) + j_22)))), (0, .ref (a0)), (1, .int (nI (j_6))), (2, .int (nI (j_14))), (3, .int (nI (j_22)))]) hx hb dX5_sum_84 hl (k := 5) rfl (nI_add _ _) (by decide) rfl (fun ls hl => ?_)
            refine lv_goto (tgt := 40) hx hb dX5_sum_87 (by decide) ?_
            have ea_30 : sumL (mSuV u.2.2 j_6 j_14 j_22) (i_25 + 1) = (sumL (mSuV u.2.2 j_6 j_14 j_22) (i_25)) + (gJ u.2.2 67 (0) (((96 * (gN u.2.2 69 (0) ((150 * j_6) + i_25))) + (8 * j_14)) + j_22)) := by first | (simp [allN_s, anyN_s, cntN_s, sumL_s, Int64.add_assoc, mSuV, mCame, c_29] <;> omega) | grind [allN_s, anyN_s, cntN_s, sumL_s, Int64.add_assoc, mSuV, mCame]
            exact ih40 (H, locs, ls) (by omega) ⟨trivial, hB, by show lv_has ls 7 [(0, .ref (a0)), (1, .int (nI (j_6))), (2, .int (nI (j_14))), (3, .int (nI (j_22))), (4, .long (sumL (mSuV u.2.2 j_6 j_14 j_22) (i_25 + 1))), (6, .int (nI (i_25 + 1)))]; rw [ea_30]; exact lv_sub hl [2, 3, 4, 5, 1, 0] rfl⟩
        · have hj_31 := Option.isSome_eq_false_iff.mp c_21
          rw [Option.isNone_iff_eq_none] at hj_31
          refine lv_lconst (v := 0) hx hb dX5_sum_32 (by decide) ?_
          exact w_lret (v := 0) hF hr hlocks hB (⟨rfl, by simp [msum, hj_7, hj_15, c_17, hj_31]⟩) dX5_sum_33
set_option maxHeartbeats 4000000 in
set_option maxRecDepth 100000 in
theorem c_X5_start (l : Launch) (env : Ev) (s0 : Nat) (X : va_W) (u : St) (a0 : Nat) (_xa0 : Nat) (ha0 : At u 20 (0) a0) (v1 : Int32) (v2 : Int32) (hM : MI u) (hV : MV u.2.2) (hNm : Nb u.2.2) : Met l yX5_start [Cond.code yX5_start cX5_start 3 (some .int)] { frames := 2, cells := 0, slots := 0, locals := 46 } (va_Pc [.ref (a0), .int (v1), .int (v2)] (Pr env s0 X u)) (va_Qi (fun r u' => u = u' ∧ r = mstart u.2.2 v1 v2) (Po env s0 X) (fun q => s0 ≤ q)) 0 0 (fun q => s0 ≤ q) := by
  refine Met.ofW (cc := cX5_start) (maxL := 3) (ret := (some .int)) (by decide) rfl ?_
  intro p e s m args below meth c s₁ B hml hv
  obtain ⟨rfl, hv⟩ := hv
  have hx := B.exec
  have hb := B.bytes
  have hr := B.returns
  have hts : ∀ ww ∈ TT, ww.before #[.ref (a0), .int (v1), .int (v2)] s = true := fun ww hw => hv.2.1 ww hw _
  have hown : s.vm.findClass RX5 = some m.cls := findClass_of_methodNamed B.named
  have hlocks := B.notSynchronized
  have hF : CallFix p m c cX5_start 3 s #[.ref (a0), .int (v1), .int (v2)] TT RX5 := ⟨hx, hb, hml, hown, hts⟩
  have hB := Bd.entry hv
  have hl := lv_entry ([.ref (a0), .int (v1), .int (v2)]) (n := 3) (Nat.le_of_ble_eq_true rfl)
  rw [lg_entry_eq]
  generalize (lg_sl ([.ref (a0), .int (v1), .int (v2)]) ++ List.replicate (3 - (lg_sl ([.ref (a0), .int (v1), .int (v2)])).length) Slot.unset).toArray = ls at hl ⊢
  have hl : lv_has ls 3 [(0, .ref (a0)), (1, .int (v1)), (2, .int (v2))] := hl
  have hn1 := hV.nth
  have hn2 := hV.ntx
  have hn3 := hV.nst
  have hn4 := hV.nms
  refine lv_aload_n hx hb dX5_start_0 rfl (lv_at hl 0 rfl) ?_
  refine lv_iload_n hx hb dX5_start_1 rfl (lv_at hl 1 rfl) ?_
  refine w_ci (r_V (As := [.int (v1)]) (rest := []) hF hB (c_X5_is l env s0 X u (a0) (0) (ha0) (v1) hM hNm) cv_X5_is tw_3_202 ⟨rfl, rfl, by decide, by decide⟩ (hB.recv ha0 (cn_20 env u (0)) rfl) rfl hl.1 rfl (lv_room (by decide)) dX5_start_2 ⟨Nat.le_of_ble_eq_true rfl, Nat.le_of_ble_eq_true rfl⟩) hB (fun r_1 u_3 H locs hq_2 hB => ?_)
  obtain ⟨rfl, rfl⟩ := hq_2
  refine w_ifeq_b (tgt := 29) hx hb dX5_start_5 (by decide) (fun c_4 => ?_) (fun c_4 => ?_)
  · have hj_5 := Option.isSome_eq_false_iff.mp c_4
    rw [Option.isNone_iff_eq_none] at hj_5
    refine lv_iconst (v := -1) hx hb dX5_start_29 (by decide) ?_
    exact w_iret (v := -1) hF hr hlocks hB (⟨rfl, by simp [mstart, hj_5]⟩) dX5_start_30
  · obtain ⟨j_6, hj_7⟩ := Option.isSome_iff_exists.mp c_4
    obtain ⟨hjl_8, rfl⟩ := ix_some (by have := hNm 55 0 0; omega) hj_7
    refine lv_aload_n hx hb dX5_start_8 rfl (lv_at hl 0 rfl) ?_
    refine lv_iload_n hx hb dX5_start_9 rfl (lv_at hl 2 rfl) ?_
    refine w_ci (r_V (As := [.int (v2)]) (rest := []) hF hB (c_X5_isSite l env s0 X u (a0) (0) (ha0) (v2) hM hNm) cv_X5_isSite tw_3_190 ⟨rfl, rfl, by decide, by decide⟩ (hB.recv ha0 (cn_20 env u (0)) rfl) rfl hl.1 rfl (lv_room (by decide)) dX5_start_10 ⟨Nat.le_of_ble_eq_true rfl, Nat.le_of_ble_eq_true rfl⟩) hB (fun r_9 u_11 H locs hq_10 hB => ?_)
    obtain ⟨rfl, rfl⟩ := hq_10
    refine w_ifeq_b (tgt := 29) hx hb dX5_start_13 (by decide) (fun c_12 => ?_) (fun c_12 => ?_)
    · have hj_13 := Option.isSome_eq_false_iff.mp c_12
      rw [Option.isNone_iff_eq_none] at hj_13
      refine lv_iconst (v := -1) hx hb dX5_start_29 (by decide) ?_
      exact w_iret (v := -1) hF hr hlocks hB (⟨rfl, by simp [mstart, hj_7, hj_13]⟩) dX5_start_30
    · obtain ⟨j_14, hj_15⟩ := Option.isSome_iff_exists.mp c_12
      obtain ⟨hjl_16, rfl⟩ := ix_some (by have := hNm 50 0 0; omega) hj_15
      refine lv_aload_n hx hb dX5_start_16 rfl (lv_at hl 0 rfl) ?_
      refine w_get (v := .ref (sA u 29 0)) (fk := 8) hF hB ha0 (cn_20 env u (0)) rfl in_X5 (by decide) tw_3_103 rfl rfl dX5_start_17 ?_
      refine lv_iconst (v := nI 4) hx hb dX5_start_20 (by decide) ?_
      refine lv_iload_n hx hb dX5_start_21 rfl (lv_at hl 1 rfl) ?_
      refine w_imul_n hx hb dX5_start_22 ?_
      refine lv_iload_n hx hb dX5_start_23 rfl (lv_at hl 2 rfl) ?_
      refine w_iadd_n hx hb dX5_start_24 ?_
      refine w_iald (v := .int (nI (gN u.2.2 58 (0) ((4 * j_6) + j_14)))) hF hB ⟨hM 29 (by decide), rfl⟩ (cn_29 env u (0)) (by omega) rfl (by decide) dX5_start_25 ?_
      refine lv_goto (tgt := 30) hx hb dX5_start_26 (by decide) ?_
      exact w_iret (v := nI (gN u.2.2 58 (0) ((4 * j_6) + j_14))) hF hr hlocks hB (⟨rfl, by simp [mstart, hj_7, hj_15]⟩) dX5_start_30
set_option maxHeartbeats 4000000 in
set_option maxRecDepth 100000 in
theorem c_X5_had (l : Launch) (env : Ev) (s0 : Nat) (X : va_W) (u : St) (a0 : Nat) (_xa0 : Nat) (ha0 : At u 20 (0) a0) (v1 : Int32) (v2 : Int32) (hM : MI u) (hV : MV u.2.2) (hNm : Nb u.2.2) : Met l yX5_had [Cond.code yX5_had cX5_had 3 (some .int)] { frames := 2, cells := 0, slots := 0, locals := 46 } (va_Pc [.ref (a0), .int (v1), .int (v2)] (Pr env s0 X u)) (va_Qi (fun r u' => u = u' ∧ r = mhad u.2.2 v1 v2) (Po env s0 X) (fun q => s0 ≤ q)) 0 0 (fun q => s0 ≤ q) := by
  refine Met.ofW (cc := cX5_had) (maxL := 3) (ret := (some .int)) (by decide) rfl ?_
  intro p e s m args below meth c s₁ B hml hv
  obtain ⟨rfl, hv⟩ := hv
  have hx := B.exec
  have hb := B.bytes
  have hr := B.returns
  have hts : ∀ ww ∈ TT, ww.before #[.ref (a0), .int (v1), .int (v2)] s = true := fun ww hw => hv.2.1 ww hw _
  have hown : s.vm.findClass RX5 = some m.cls := findClass_of_methodNamed B.named
  have hlocks := B.notSynchronized
  have hF : CallFix p m c cX5_had 3 s #[.ref (a0), .int (v1), .int (v2)] TT RX5 := ⟨hx, hb, hml, hown, hts⟩
  have hB := Bd.entry hv
  have hl := lv_entry ([.ref (a0), .int (v1), .int (v2)]) (n := 3) (Nat.le_of_ble_eq_true rfl)
  rw [lg_entry_eq]
  generalize (lg_sl ([.ref (a0), .int (v1), .int (v2)]) ++ List.replicate (3 - (lg_sl ([.ref (a0), .int (v1), .int (v2)])).length) Slot.unset).toArray = ls at hl ⊢
  have hl : lv_has ls 3 [(0, .ref (a0)), (1, .int (v1)), (2, .int (v2))] := hl
  have hn1 := hV.nth
  have hn2 := hV.ntx
  have hn3 := hV.nst
  have hn4 := hV.nms
  refine lv_aload_n hx hb dX5_had_0 rfl (lv_at hl 0 rfl) ?_
  refine lv_iload_n hx hb dX5_had_1 rfl (lv_at hl 1 rfl) ?_
  refine w_ci (r_V (As := [.int (v1)]) (rest := []) hF hB (c_X5_isSite l env s0 X u (a0) (0) (ha0) (v1) hM hNm) cv_X5_isSite tw_3_190 ⟨rfl, rfl, by decide, by decide⟩ (hB.recv ha0 (cn_20 env u (0)) rfl) rfl hl.1 rfl (lv_room (by decide)) dX5_had_2 ⟨Nat.le_of_ble_eq_true rfl, Nat.le_of_ble_eq_true rfl⟩) hB (fun r_1 u_3 H locs hq_2 hB => ?_)
  obtain ⟨rfl, rfl⟩ := hq_2
  refine w_ifeq_b (tgt := 29) hx hb dX5_had_5 (by decide) (fun c_4 => ?_) (fun c_4 => ?_)
  · have hj_5 := Option.isSome_eq_false_iff.mp c_4
    rw [Option.isNone_iff_eq_none] at hj_5
    refine lv_iconst (v := -1) hx hb dX5_had_29 (by decide) ?_
    exact w_iret (v := -1) hF hr hlocks hB (⟨rfl, by simp [mhad, hj_5]⟩) dX5_had_30
  · obtain ⟨j_6, hj_7⟩ := Option.isSome_iff_exists.mp c_4
    obtain ⟨hjl_8, rfl⟩ := ix_some (by have := hNm 50 0 0; omega) hj_7
    refine lv_aload_n hx hb dX5_had_8 rfl (lv_at hl 0 rfl) ?_
    refine lv_iload_n hx hb dX5_had_9 rfl (lv_at hl 2 rfl) ?_
    refine w_ci (r_V (As := [.int (v2)]) (rest := []) hF hB (c_X5_isSite l env s0 X u (a0) (0) (ha0) (v2) hM hNm) cv_X5_isSite tw_3_190 ⟨rfl, rfl, by decide, by decide⟩ (hB.recv ha0 (cn_20 env u (0)) rfl) rfl hl.1 rfl (lv_room (by decide)) dX5_had_10 ⟨Nat.le_of_ble_eq_true rfl, Nat.le_of_ble_eq_true rfl⟩) hB (fun r_9 u_11 H locs hq_10 hB => ?_)
    obtain ⟨rfl, rfl⟩ := hq_10
    refine w_ifeq_b (tgt := 29) hx hb dX5_had_13 (by decide) (fun c_12 => ?_) (fun c_12 => ?_)
    · have hj_13 := Option.isSome_eq_false_iff.mp c_12
      rw [Option.isNone_iff_eq_none] at hj_13
      refine lv_iconst (v := -1) hx hb dX5_had_29 (by decide) ?_
      exact w_iret (v := -1) hF hr hlocks hB (⟨rfl, by simp [mhad, hj_7, hj_13]⟩) dX5_had_30
    · obtain ⟨j_14, hj_15⟩ := Option.isSome_iff_exists.mp c_12
      obtain ⟨hjl_16, rfl⟩ := ix_some (by have := hNm 50 0 0; omega) hj_15
      refine lv_aload_n hx hb dX5_had_16 rfl (lv_at hl 0 rfl) ?_
      refine w_get (v := .ref (sA u 39 0)) (fk := 18) hF hB ha0 (cn_20 env u (0)) rfl in_X5 (by decide) tw_3_113 rfl rfl dX5_had_17 ?_
      refine lv_iconst (v := nI 4) hx hb dX5_had_20 (by decide) ?_
      refine lv_iload_n hx hb dX5_had_21 rfl (lv_at hl 1 rfl) ?_
      refine w_imul_n hx hb dX5_had_22 ?_
      refine lv_iload_n hx hb dX5_had_23 rfl (lv_at hl 2 rfl) ?_
      refine w_iadd_n hx hb dX5_had_24 ?_
      refine w_iald (v := .int (nI (gN u.2.2 68 (0) ((4 * j_6) + j_14)))) hF hB ⟨hM 39 (by decide), rfl⟩ (cn_39 env u (0)) (by omega) rfl (by decide) dX5_had_25 ?_
      refine lv_goto (tgt := 30) hx hb dX5_had_26 (by decide) ?_
      exact w_iret (v := nI (gN u.2.2 68 (0) ((4 * j_6) + j_14))) hF hr hlocks hB (⟨rfl, by simp [mhad, hj_7, hj_15]⟩) dX5_had_30
set_option maxHeartbeats 4000000 in
set_option maxRecDepth 100000 in
theorem c_X5_locked (l : Launch) (env : Ev) (s0 : Nat) (X : va_W) (u : St) (a0 : Nat) (_xa0 : Nat) (ha0 : At u 20 (0) a0) (v1 : Int32) (v2 : Int32) (hM : MI u) (hV : MV u.2.2) (hNm : Nb u.2.2) : Met l yX5_locked [Cond.code yX5_locked cX5_locked 3 (some .int)] { frames := 2, cells := 0, slots := 0, locals := 46 } (va_Pc [.ref (a0), .int (v1), .int (v2)] (Pr env s0 X u)) (va_Qi (fun r u' => u = u' ∧ r = mlocked u.2.2 v1 v2) (Po env s0 X) (fun q => s0 ≤ q)) 0 0 (fun q => s0 ≤ q) := by
  refine Met.ofW (cc := cX5_locked) (maxL := 3) (ret := (some .int)) (by decide) rfl ?_
  intro p e s m args below meth c s₁ B hml hv
  obtain ⟨rfl, hv⟩ := hv
  have hx := B.exec
  have hb := B.bytes
  have hr := B.returns
  have hts : ∀ ww ∈ TT, ww.before #[.ref (a0), .int (v1), .int (v2)] s = true := fun ww hw => hv.2.1 ww hw _
  have hown : s.vm.findClass RX5 = some m.cls := findClass_of_methodNamed B.named
  have hlocks := B.notSynchronized
  have hF : CallFix p m c cX5_locked 3 s #[.ref (a0), .int (v1), .int (v2)] TT RX5 := ⟨hx, hb, hml, hown, hts⟩
  have hB := Bd.entry hv
  have hl := lv_entry ([.ref (a0), .int (v1), .int (v2)]) (n := 3) (Nat.le_of_ble_eq_true rfl)
  rw [lg_entry_eq]
  generalize (lg_sl ([.ref (a0), .int (v1), .int (v2)]) ++ List.replicate (3 - (lg_sl ([.ref (a0), .int (v1), .int (v2)])).length) Slot.unset).toArray = ls at hl ⊢
  have hl : lv_has ls 3 [(0, .ref (a0)), (1, .int (v1)), (2, .int (v2))] := hl
  have hn1 := hV.nth
  have hn2 := hV.ntx
  have hn3 := hV.nst
  have hn4 := hV.nms
  refine lv_aload_n hx hb dX5_locked_0 rfl (lv_at hl 0 rfl) ?_
  refine lv_iload_n hx hb dX5_locked_1 rfl (lv_at hl 1 rfl) ?_
  refine w_ci (r_V (As := [.int (v1)]) (rest := []) hF hB (c_X5_isSite l env s0 X u (a0) (0) (ha0) (v1) hM hNm) cv_X5_isSite tw_3_190 ⟨rfl, rfl, by decide, by decide⟩ (hB.recv ha0 (cn_20 env u (0)) rfl) rfl hl.1 rfl (lv_room (by decide)) dX5_locked_2 ⟨Nat.le_of_ble_eq_true rfl, Nat.le_of_ble_eq_true rfl⟩) hB (fun r_1 u_3 H locs hq_2 hB => ?_)
  obtain ⟨rfl, rfl⟩ := hq_2
  refine w_ifeq_b (tgt := 30) hx hb dX5_locked_5 (by decide) (fun c_4 => ?_) (fun c_4 => ?_)
  · have hj_5 := Option.isSome_eq_false_iff.mp c_4
    rw [Option.isNone_iff_eq_none] at hj_5
    refine lv_iconst (v := -1) hx hb dX5_locked_30 (by decide) ?_
    exact w_iret (v := -1) hF hr hlocks hB (⟨rfl, by simp [mlocked, hj_5]⟩) dX5_locked_31
  · obtain ⟨j_6, hj_7⟩ := Option.isSome_iff_exists.mp c_4
    obtain ⟨hjl_8, rfl⟩ := ix_some (by have := hNm 50 0 0; omega) hj_7
    refine lv_aload_n hx hb dX5_locked_8 rfl (lv_at hl 0 rfl) ?_
    refine lv_iload_n hx hb dX5_locked_9 rfl (lv_at hl 2 rfl) ?_
    refine w_ci (r_V (As := [.int (v2)]) (rest := []) hF hB (c_X5_isThing l env s0 X u (a0) (0) (ha0) (v2) hM hNm) cv_X5_isThing tw_3_206 ⟨rfl, rfl, by decide, by decide⟩ (hB.recv ha0 (cn_20 env u (0)) rfl) rfl hl.1 rfl (lv_room (by decide)) dX5_locked_10 ⟨Nat.le_of_ble_eq_true rfl, Nat.le_of_ble_eq_true rfl⟩) hB (fun r_9 u_11 H locs hq_10 hB => ?_)
    obtain ⟨rfl, rfl⟩ := hq_10
    refine w_ifeq_b (tgt := 30) hx hb dX5_locked_13 (by decide) (fun c_12 => ?_) (fun c_12 => ?_)
    · have hj_13 := Option.isSome_eq_false_iff.mp c_12
      rw [Option.isNone_iff_eq_none] at hj_13
      refine lv_iconst (v := -1) hx hb dX5_locked_30 (by decide) ?_
      exact w_iret (v := -1) hF hr hlocks hB (⟨rfl, by simp [mlocked, hj_7, hj_13]⟩) dX5_locked_31
    · obtain ⟨j_14, hj_15⟩ := Option.isSome_iff_exists.mp c_12
      obtain ⟨hjl_16, rfl⟩ := ix_some (by have := hNm 52 0 0; omega) hj_15
      refine lv_aload_n hx hb dX5_locked_16 rfl (lv_at hl 0 rfl) ?_
      refine w_get (v := .ref (sA u 42 0)) (fk := 21) hF hB ha0 (cn_20 env u (0)) rfl in_X5 (by decide) tw_3_116 rfl rfl dX5_locked_17 ?_
      refine lv_bipush (v := nI 12) hx hb dX5_locked_20 (by decide) ?_
      refine lv_iload_n hx hb dX5_locked_22 rfl (lv_at hl 1 rfl) ?_
      refine w_imul_n hx hb dX5_locked_23 ?_
      refine lv_iload_n hx hb dX5_locked_24 rfl (lv_at hl 2 rfl) ?_
      refine w_iadd_n hx hb dX5_locked_25 ?_
      refine w_iald (v := .int (gI u.2.2 71 (0) ((12 * j_6) + j_14))) hF hB ⟨hM 42 (by decide), rfl⟩ (cn_42 env u (0)) (by omega) rfl (by decide) dX5_locked_26 ?_
      refine lv_goto (tgt := 31) hx hb dX5_locked_27 (by decide) ?_
      exact w_iret (v := gI u.2.2 71 (0) ((12 * j_6) + j_14)) hF hr hlocks hB (⟨rfl, by simp [mlocked, hj_7, hj_15]⟩) dX5_locked_31
set_option maxHeartbeats 4000000 in
set_option maxRecDepth 100000 in
theorem c_X5_sees (l : Launch) (env : Ev) (s0 : Nat) (X : va_W) (u : St) (a0 : Nat) (_xa0 : Nat) (ha0 : At u 20 (0) a0) (v1 : Int32) (v2 : Int32) (hM : MI u) (hV : MV u.2.2) (hNm : Nb u.2.2) : Met l yX5_sees [Cond.code yX5_sees cX5_sees 3 (some .int)] { frames := 2, cells := 0, slots := 0, locals := 46 } (va_Pc [.ref (a0), .int (v1), .int (v2)] (Pr env s0 X u)) (va_Qi (fun r u' => u = u' ∧ r = msees u.2.2 v1 v2) (Po env s0 X) (fun q => s0 ≤ q)) 0 0 (fun q => s0 ≤ q) := by
  refine Met.ofW (cc := cX5_sees) (maxL := 3) (ret := (some .int)) (by decide) rfl ?_
  intro p e s m args below meth c s₁ B hml hv
  obtain ⟨rfl, hv⟩ := hv
  have hx := B.exec
  have hb := B.bytes
  have hr := B.returns
  have hts : ∀ ww ∈ TT, ww.before #[.ref (a0), .int (v1), .int (v2)] s = true := fun ww hw => hv.2.1 ww hw _
  have hown : s.vm.findClass RX5 = some m.cls := findClass_of_methodNamed B.named
  have hlocks := B.notSynchronized
  have hF : CallFix p m c cX5_sees 3 s #[.ref (a0), .int (v1), .int (v2)] TT RX5 := ⟨hx, hb, hml, hown, hts⟩
  have hB := Bd.entry hv
  have hl := lv_entry ([.ref (a0), .int (v1), .int (v2)]) (n := 3) (Nat.le_of_ble_eq_true rfl)
  rw [lg_entry_eq]
  generalize (lg_sl ([.ref (a0), .int (v1), .int (v2)]) ++ List.replicate (3 - (lg_sl ([.ref (a0), .int (v1), .int (v2)])).length) Slot.unset).toArray = ls at hl ⊢
  have hl : lv_has ls 3 [(0, .ref (a0)), (1, .int (v1)), (2, .int (v2))] := hl
  have hn1 := hV.nth
  have hn2 := hV.ntx
  have hn3 := hV.nst
  have hn4 := hV.nms
  refine lv_aload_n hx hb dX5_sees_0 rfl (lv_at hl 0 rfl) ?_
  refine lv_iload_n hx hb dX5_sees_1 rfl (lv_at hl 1 rfl) ?_
  refine w_ci (r_V (As := [.int (v1)]) (rest := []) hF hB (c_X5_is l env s0 X u (a0) (0) (ha0) (v1) hM hNm) cv_X5_is tw_3_202 ⟨rfl, rfl, by decide, by decide⟩ (hB.recv ha0 (cn_20 env u (0)) rfl) rfl hl.1 rfl (lv_room (by decide)) dX5_sees_2 ⟨Nat.le_of_ble_eq_true rfl, Nat.le_of_ble_eq_true rfl⟩) hB (fun r_1 u_3 H locs hq_2 hB => ?_)
  obtain ⟨rfl, rfl⟩ := hq_2
  refine w_ifeq_b (tgt := 16) hx hb dX5_sees_5 (by decide) (fun c_4 => ?_) (fun c_4 => ?_)
  · have hj_5 := Option.isSome_eq_false_iff.mp c_4
    rw [Option.isNone_iff_eq_none] at hj_5
    refine lv_iconst (v := -1) hx hb dX5_sees_16 (by decide) ?_
    exact w_iret (v := -1) hF hr hlocks hB (⟨rfl, by simp [msees, hj_5]⟩) dX5_sees_17
  · obtain ⟨j_6, hj_7⟩ := Option.isSome_iff_exists.mp c_4
    obtain ⟨hjl_8, rfl⟩ := ix_some (by have := hNm 55 0 0; omega) hj_7
    refine lv_aload_n hx hb dX5_sees_8 rfl (lv_at hl 0 rfl) ?_
    refine lv_iload_n hx hb dX5_sees_9 rfl (lv_at hl 2 rfl) ?_
    refine w_ci (r_V (As := [.int (v2)]) (rest := []) hF hB (c_X5_is l env s0 X u (a0) (0) (ha0) (v2) hM hNm) cv_X5_is tw_3_202 ⟨rfl, rfl, by decide, by decide⟩ (hB.recv ha0 (cn_20 env u (0)) rfl) rfl hl.1 rfl (lv_room (by decide)) dX5_sees_10 ⟨Nat.le_of_ble_eq_true rfl, Nat.le_of_ble_eq_true rfl⟩) hB (fun r_9 u_11 H locs hq_10 hB => ?_)
    obtain ⟨rfl, rfl⟩ := hq_10
    refine w_ifne_b (tgt := 18) hx hb dX5_sees_13 (by decide) (fun c_12 => ?_) (fun c_12 => ?_)
    · obtain ⟨j_13, hj_14⟩ := Option.isSome_iff_exists.mp c_12
      obtain ⟨hjl_15, rfl⟩ := ix_some (by have := hNm 55 0 0; omega) hj_14
      refine lv_aload_n hx hb dX5_sees_18 rfl (lv_at hl 0 rfl) ?_
      refine w_get (v := .ref (sA u 30 0)) (fk := 9) hF hB ha0 (cn_20 env u (0)) rfl in_X5 (by decide) tw_3_104 rfl rfl dX5_sees_19 ?_
      refine lv_iload_n hx hb dX5_sees_22 rfl (lv_at hl 2 rfl) ?_
      refine w_iald (v := .int (nI (gN u.2.2 59 (0) (j_13)))) hF hB ⟨hM 30 (by decide), rfl⟩ (cn_30 env u (0)) (by omega) rfl (by decide) dX5_sees_23 ?_
      refine w_ifne_n (tgt := 30) (by have := hNm 59 (0) (j_13); omega) hx hb dX5_sees_24 (by decide) (fun c_16 => ?_) (fun c_16 => ?_)
      · refine lv_iload_n hx hb dX5_sees_30 rfl (lv_at hl 1 rfl) ?_
        refine lv_iload_n hx hb dX5_sees_31 rfl (lv_at hl 2 rfl) ?_
        refine w_iceq_n (tgt := 44) (by omega) (by omega) hx hb dX5_sees_32 (by decide) (fun c_17 => ?_) (fun c_17 => ?_)
        · refine lv_iconst (v := nI 1) hx hb dX5_sees_44 (by decide) ?_
          refine lv_goto (tgt := 49) hx hb dX5_sees_45 (by decide) ?_
          exact w_iret (v := nI 1) hF hr hlocks hB (⟨rfl, by simp only [msees, hj_7, hj_14, if_neg c_16, if_false, if_true]; exact b2i_c1 (by simp [c_16, c_17])⟩) dX5_sees_49
        · refine lv_aload_n hx hb dX5_sees_35 rfl (lv_at hl 0 rfl) ?_
          refine lv_iload_n hx hb dX5_sees_36 rfl (lv_at hl 1 rfl) ?_
          refine lv_iload_n hx hb dX5_sees_37 rfl (lv_at hl 2 rfl) ?_
          refine w_ci (r_V (As := [.int (nI (j_6)), .int (nI (j_13))]) (rest := []) hF hB (c_X5_has l env s0 X u (a0) (0) (ha0) (j_6) (j_13) hM hV hNm (by omega) (by omega)) cv_X5_has tw_3_210 ⟨rfl, rfl, by decide, by decide⟩ (hB.recv ha0 (cn_20 env u (0)) rfl) rfl hl.1 rfl (lv_room (by decide)) dX5_sees_38 ⟨Nat.le_of_ble_eq_true rfl, Nat.le_of_ble_eq_true rfl⟩) hB (fun r_18 u_20 H locs hq_19 hB => ?_)
          obtain ⟨rfl, rfl⟩ := hq_19
          refine w_ifeq_b (tgt := 48) hx hb dX5_sees_41 (by decide) (fun c_21 => ?_) (fun c_21 => ?_)
          · refine lv_iconst (v := nI 0) hx hb dX5_sees_48 (by decide) ?_
            exact w_iret (v := nI 0) hF hr hlocks hB (⟨rfl, by simp only [msees, hj_7, hj_14, if_neg c_16, if_false, if_true]; exact b2i_c0 (by simp [c_16, c_17, c_21])⟩) dX5_sees_49
          · refine lv_iconst (v := nI 1) hx hb dX5_sees_44 (by decide) ?_
            refine lv_goto (tgt := 49) hx hb dX5_sees_45 (by decide) ?_
            exact w_iret (v := nI 1) hF hr hlocks hB (⟨rfl, by simp only [msees, hj_7, hj_14, if_neg c_16, if_false, if_true]; exact b2i_c1 (by simp [c_16, c_17, c_21])⟩) dX5_sees_49
      · refine lv_bipush (v := -4) hx hb dX5_sees_27 (by decide) ?_
        exact w_iret (v := -4) hF hr hlocks hB (⟨rfl, by simp [msees, hj_7, hj_14, c_16]⟩) dX5_sees_29
    · have hj_22 := Option.isSome_eq_false_iff.mp c_12
      rw [Option.isNone_iff_eq_none] at hj_22
      refine lv_iconst (v := -1) hx hb dX5_sees_16 (by decide) ?_
      exact w_iret (v := -1) hF hr hlocks hB (⟨rfl, by simp [msees, hj_7, hj_22]⟩) dX5_sees_17

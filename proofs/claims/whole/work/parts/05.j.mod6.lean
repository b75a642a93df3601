set_option maxHeartbeats 4000000 in
set_option maxRecDepth 100000 in
theorem c_X5_abort (l : Launch) (env : Ev) (s0 : Nat) (X : va_W) (u : St) (a0 : Nat) (_xa0 : Nat) (ha0 : At u 20 (0) a0) (v1 : Int32) (hM : MI u) (hV : MV u.2.2) (hNm : Nb u.2.2) : Met l yX5_abort [Cond.code yX5_abort cX5_abort 2 (some .int)] { frames := 2, cells := 0, slots := 0, locals := 46 } (va_Pc [.ref (a0), .int (v1)] (Pr env s0 X u)) (va_Qi (fun r u' => u' = wM u ((mabort u.2.2 v1).2) ∧ r = (mabort u.2.2 v1).1) (Po env s0 X) (fun q => s0 ≤ q)) 0 0 (fun q => s0 ≤ q) := by
  refine Met.ofW (cc := cX5_abort) (maxL := 2) (ret := (some .int)) (by decide) rfl ?_
  intro p e s m args below meth c s₁ B hml hv
  obtain ⟨rfl, hv⟩ := hv
  have hx := B.exec
  have hb := B.bytes
  have hr := B.returns
  have hts : ∀ ww ∈ TT, ww.before #[.ref (a0), .int (v1)] s = true := fun ww hw => hv.2.1 ww hw _
  have hown : s.vm.findClass RX5 = some m.cls := findClass_of_methodNamed B.named
  have hlocks := B.notSynchronized
  have hF : CallFix p m c cX5_abort 2 s #[.ref (a0), .int (v1)] TT RX5 := ⟨hx, hb, hml, hown, hts⟩
  have hB := Bd.entry hv
  have hl := lv_entry ([.ref (a0), .int (v1)]) (n := 2) (Nat.le_of_ble_eq_true rfl)
  rw [lg_entry_eq]
  generalize (lg_sl ([.ref (a0), .int (v1)]) ++ List.replicate (2 - (lg_sl ([.ref (a0), .int (v1)])).length) Slot.unset).toArray = ls at hl ⊢
  have hl : lv_has ls 2 [(0, .ref (a0)), (1, .int (v1))] := hl
  have hn1 := hV.nth
  have hn2 := hV.ntx
  have hn3 := hV.nst
  have hn4 := hV.nms
  refine lv_aload_n hx hb dX5_abort_0 rfl (lv_at hl 0 rfl) ?_
  refine lv_iload_n hx hb dX5_abort_1 rfl (lv_at hl 1 rfl) ?_
  refine w_ci (r_V (As := [.int (v1)]) (rest := []) hF hB (c_X5_is l env s0 X u (a0) (0) (ha0) (v1) hM hNm) cv_X5_is tw_3_202 ⟨rfl, rfl, by decide, by decide⟩ (hB.recv ha0 (cn_20 env u (0)) rfl) rfl hl.1 rfl (lv_room (by decide)) dX5_abort_2 ⟨Nat.le_of_ble_eq_true rfl, Nat.le_of_ble_eq_true rfl⟩) hB (fun r_1 u_3 H locs hq_2 hB => ?_)
  obtain ⟨rfl, rfl⟩ := hq_2
  refine w_ifne_b (tgt := 10) hx hb dX5_abort_5 (by decide) (fun c_4 => ?_) (fun c_4 => ?_)
  · obtain ⟨j_5, hj_6⟩ := Option.isSome_iff_exists.mp c_4
    obtain ⟨hjl_7, rfl⟩ := ix_some (by have := hNm 55 0 0; omega) hj_6
    refine lv_aload_n hx hb dX5_abort_10 rfl (lv_at hl 0 rfl) ?_
    refine w_get (v := .ref (sA u 28 0)) (fk := 7) hF hB ha0 (cn_20 env u (0)) rfl in_X5 (by decide) tw_3_102 rfl rfl dX5_abort_11 ?_
    refine lv_iload_n hx hb dX5_abort_14 rfl (lv_at hl 1 rfl) ?_
    refine w_iald (v := .int (nI (gN u.2.2 57 (0) (j_5)))) hF hB ⟨hM 28 (by decide), rfl⟩ (cn_28 env u (0)) (by omega) rfl (by decide) dX5_abort_15 ?_
    refine w_ifeq_n (tgt := 22) (by have := hNm 57 (0) (j_5); omega) hx hb dX5_abort_16 (by decide) (fun c_8 => ?_) (fun c_8 => ?_)
    · refine lv_aload_n hx hb dX5_abort_22 rfl (lv_at hl 0 rfl) ?_
      refine w_get (v := .ref (sA u 28 0)) (fk := 7) hF hB ha0 (cn_20 env u (0)) rfl in_X5 (by decide) tw_3_102 rfl rfl dX5_abort_23 ?_
      refine lv_iload_n hx hb dX5_abort_26 rfl (lv_at hl 1 rfl) ?_
      refine lv_iconst (v := nI 3) hx hb dX5_abort_27 (by decide) ?_
      refine w_iast (x := nI (3)) hF hB ⟨hM 28 (by decide), rfl⟩ (wM u (uN u.2.2 57 (0) (j_5) (3))) (cn_28 env u (0)) (by omega) (by decide) rfl rfl (cu_N57 env u (0) (j_5) (3)) dX5_abort_28 (fun H locs hB => ?_)
      refine lv_iconst (v := nI 1) hx hb dX5_abort_29 (by decide) ?_
      exact w_iret (v := nI 1) hF hr hlocks hB (⟨by first | (simp [mabort, hj_6, c_8]; done) | (simp [mabort, hj_6, c_8]; rfl) | (simp [mabort, hj_6, c_8] <;> omega), by first | (simp [mabort, hj_6, c_8]; done) | (simp [mabort, hj_6, c_8]; rfl) | (simp [mabort, hj_6, c_8] <;> omega)⟩) dX5_abort_30
    · refine lv_bipush (v := -2) hx hb dX5_abort_19 (by decide) ?_
      exact w_iret (v := -2) hF hr hlocks hB (⟨by first | (simp [mabort, hj_6, c_8]; done) | (simp [mabort, hj_6, c_8]; rfl) | (simp [mabort, hj_6, c_8] <;> omega), by first | (simp [mabort, hj_6, c_8]; done) | (simp [mabort, hj_6, c_8]; rfl) | (simp [mabort, hj_6, c_8] <;> omega)⟩) dX5_abort_21
  · have hj_9 := Option.isSome_eq_false_iff.mp c_4
    rw [Option.isNone_iff_eq_none] at hj_9
    refine lv_iconst (v := -1) hx hb dX5_abort_8 (by decide) ?_
    exact w_iret (v := -1) hF hr hlocks hB (⟨by first | (simp [mabort, hj_9]; done) | (simp [mabort, hj_9]; rfl) | (simp [mabort, hj_9] <;> omega), by first | (simp [mabort, hj_9]; done) | (simp [mabort, hj_9]; rfl) | (simp [mabort, hj_9] <;> omega)⟩) dX5_abort_9
set_option maxHeartbeats 4000000 in
set_option maxRecDepth 100000 in
theorem c_X5_write (l : Launch) (env : Ev) (s0 : Nat) (X : va_W) (u : St) (a0 : Nat) (_xa0 : Nat) (ha0 : At u 20 (0) a0) (v1 : Int32) (v2 : Int32) (x : Int64) (hM : MI u) (hV : MV u.2.2) (hNm : Nb u.2.2) : Met l yX5_write [Cond.code yX5_write cX5_write 5 (some .int)] { frames := 2, cells := 0, slots := 0, locals := 46 } (va_Pc [.ref (a0), .int (v1), .int (v2), .long (x)] (Pr env s0 X u)) (va_Qi (fun r u' => u' = wM u ((mwrite u.2.2 v1 v2 x).2) ∧ r = (mwrite u.2.2 v1 v2 x).1) (Po env s0 X) (fun q => s0 ≤ q)) 0 0 (fun q => s0 ≤ q) := by
  refine Met.ofW (cc := cX5_write) (maxL := 5) (ret := (some .int)) (by decide) rfl ?_
  intro p e s m args below meth c s₁ B hml hv
  obtain ⟨rfl, hv⟩ := hv
  have hx := B.exec
  have hb := B.bytes
  have hr := B.returns
  have hts : ∀ ww ∈ TT, ww.before #[.ref (a0), .int (v1), .int (v2), .long (x)] s = true := fun ww hw => hv.2.1 ww hw _
  have hown : s.vm.findClass RX5 = some m.cls := findClass_of_methodNamed B.named
  have hlocks := B.notSynchronized
  have hF : CallFix p m c cX5_write 5 s #[.ref (a0), .int (v1), .int (v2), .long (x)] TT RX5 := ⟨hx, hb, hml, hown, hts⟩
  have hB := Bd.entry hv
  have hl := lv_entry ([.ref (a0), .int (v1), .int (v2), .long (x)]) (n := 5) (Nat.le_of_ble_eq_true rfl)
  rw [lg_entry_eq]
  generalize (lg_sl ([.ref (a0), .int (v1), .int (v2), .long (x)]) ++ List.replicate (5 - (lg_sl ([.ref (a0), .int (v1), .int (v2), .long (x)])).length) Slot.unset).toArray = ls at hl ⊢
  have hl : lv_has ls 5 [(0, .ref (a0)), (1, .int (v1)), (2, .int (v2)), (3, .long (x))] := hl
  have hn1 := hV.nth
  have hn2 := hV.ntx
  have hn3 := hV.nst
  have hn4 := hV.nms
  refine lv_aload_n hx hb dX5_write_0 rfl (lv_at hl 0 rfl) ?_
  refine lv_iload_n hx hb dX5_write_1 rfl (lv_at hl 1 rfl) ?_
  refine w_ci (r_V (As := [.int (v1)]) (rest := []) hF hB (c_X5_is l env s0 X u (a0) (0) (ha0) (v1) hM hNm) cv_X5_is tw_3_202 ⟨rfl, rfl, by decide, by decide⟩ (hB.recv ha0 (cn_20 env u (0)) rfl) rfl hl.1 rfl (lv_room (by decide)) dX5_write_2 ⟨Nat.le_of_ble_eq_true rfl, Nat.le_of_ble_eq_true rfl⟩) hB (fun r_1 u_3 H locs hq_2 hB => ?_)
  obtain ⟨rfl, rfl⟩ := hq_2
  refine w_ifeq_b (tgt := 25) hx hb dX5_write_5 (by decide) (fun c_4 => ?_) (fun c_4 => ?_)
  · have hj_5 := Option.isSome_eq_false_iff.mp c_4
    rw [Option.isNone_iff_eq_none] at hj_5
    refine lv_iconst (v := -1) hx hb dX5_write_25 (by decide) ?_
    exact w_iret (v := -1) hF hr hlocks hB (⟨by first | (simp [mwrite, mWr, hj_5]; done) | (simp [mwrite, mWr, hj_5]; rfl) | (simp [mwrite, mWr, hj_5] <;> omega), by first | (simp [mwrite, mWr, hj_5]; done) | (simp [mwrite, mWr, hj_5]; rfl) | (simp [mwrite, mWr, hj_5] <;> omega)⟩) dX5_write_26
  · obtain ⟨j_6, hj_7⟩ := Option.isSome_iff_exists.mp c_4
    obtain ⟨hjl_8, rfl⟩ := ix_some (by have := hNm 55 0 0; omega) hj_7
    refine lv_aload_n hx hb dX5_write_8 rfl (lv_at hl 0 rfl) ?_
    refine lv_iload_n hx hb dX5_write_9 rfl (lv_at hl 2 rfl) ?_
    refine w_ci (r_V (As := [.int (v2)]) (rest := []) hF hB (c_X5_isThing l env s0 X u (a0) (0) (ha0) (v2) hM hNm) cv_X5_isThing tw_3_206 ⟨rfl, rfl, by decide, by decide⟩ (hB.recv ha0 (cn_20 env u (0)) rfl) rfl hl.1 rfl (lv_room (by decide)) dX5_write_10 ⟨Nat.le_of_ble_eq_true rfl, Nat.le_of_ble_eq_true rfl⟩) hB (fun r_9 u_11 H locs hq_10 hB => ?_)
    obtain ⟨rfl, rfl⟩ := hq_10
    refine w_ifeq_b (tgt := 25) hx hb dX5_write_13 (by decide) (fun c_12 => ?_) (fun c_12 => ?_)
    · have hj_13 := Option.isSome_eq_false_iff.mp c_12
      rw [Option.isNone_iff_eq_none] at hj_13
      refine lv_iconst (v := -1) hx hb dX5_write_25 (by decide) ?_
      exact w_iret (v := -1) hF hr hlocks hB (⟨by first | (simp [mwrite, mWr, hj_7, hj_13]; done) | (simp [mwrite, mWr, hj_7, hj_13]; rfl) | (simp [mwrite, mWr, hj_7, hj_13] <;> omega), by first | (simp [mwrite, mWr, hj_7, hj_13]; done) | (simp [mwrite, mWr, hj_7, hj_13]; rfl) | (simp [mwrite, mWr, hj_7, hj_13] <;> omega)⟩) dX5_write_26
    · obtain ⟨j_14, hj_15⟩ := Option.isSome_iff_exists.mp c_12
      obtain ⟨hjl_16, rfl⟩ := ix_some (by have := hNm 52 0 0; omega) hj_15
      refine lv_aload_n hx hb dX5_write_16 rfl (lv_at hl 0 rfl) ?_
      refine w_get (v := .ref (sA u 25 0)) (fk := 4) hF hB ha0 (cn_20 env u (0)) rfl in_X5 (by decide) tw_3_99 rfl rfl dX5_write_17 ?_
      refine lv_iload_n hx hb dX5_write_20 rfl (lv_at hl 2 rfl) ?_
      refine w_zald (v := .int (b2i (gB u.2.2 54 (0) (j_14)))) hF hB ⟨hM 25 (by decide), rfl⟩ (cn_25 env u (0)) (by omega) rfl (by decide) dX5_write_21 ?_
      refine w_ifeq_b (tgt := 27) hx hb dX5_write_22 (by decide) (fun c_17 => ?_) (fun c_17 => ?_)
      · refine lv_aload_n hx hb dX5_write_27 rfl (lv_at hl 0 rfl) ?_
        refine w_get (v := .ref (sA u 28 0)) (fk := 7) hF hB ha0 (cn_20 env u (0)) rfl in_X5 (by decide) tw_3_102 rfl rfl dX5_write_28 ?_
        refine lv_iload_n hx hb dX5_write_31 rfl (lv_at hl 1 rfl) ?_
        refine w_iald (v := .int (nI (gN u.2.2 57 (0) (j_6)))) hF hB ⟨hM 28 (by decide), rfl⟩ (cn_28 env u (0)) (by omega) rfl (by decide) dX5_write_32 ?_
        refine w_ifeq_n (tgt := 39) (by have := hNm 57 (0) (j_6); omega) hx hb dX5_write_33 (by decide) (fun c_18 => ?_) (fun c_18 => ?_)
        · refine lv_aload_n hx hb dX5_write_39 rfl (lv_at hl 0 rfl) ?_
          refine w_get (v := .ref (sA u 35 0)) (fk := 14) hF hB ha0 (cn_20 env u (0)) rfl in_X5 (by decide) tw_3_109 rfl rfl dX5_write_40 ?_
          refine lv_bipush (v := nI 12) hx hb dX5_write_43 (by decide) ?_
          refine lv_iload_n hx hb dX5_write_45 rfl (lv_at hl 1 rfl) ?_
          refine w_imul_n hx hb dX5_write_46 ?_
          refine lv_iload_n hx hb dX5_write_47 rfl (lv_at hl 2 rfl) ?_
          refine w_iadd_n hx hb dX5_write_48 ?_
          refine lv_iconst (v := nI 1) hx hb dX5_write_49 (by decide) ?_
          refine w_zast (x := b2i (true)) hF hB ⟨hM 35 (by decide), rfl⟩ (wM u (uB u.2.2 64 (0) ((12 * j_6) + j_14) (true))) (cn_35 env u (0)) (by omega) (by decide) (b2i_vnar _) rfl rfl (cu_B64 env u (0) ((12 * j_6) + j_14) (true)) dX5_write_50 (fun H locs hB => ?_)
          refine lv_aload_n hx hb dX5_write_51 rfl (lv_at hl 0 rfl) ?_
          refine w_get (v := .ref (sA u 36 0)) (fk := 15) hF hB ha0 (cn_20 env (wM u (uB u.2.2 64 (0) ((12 * j_6) + j_14) (true))) (0)) rfl in_X5 (by decide) tw_3_110 rfl rfl dX5_write_52 ?_
          refine lv_bipush (v := nI 12) hx hb dX5_write_55 (by decide) ?_
          refine lv_iload_n hx hb dX5_write_57 rfl (lv_at hl 1 rfl) ?_
          refine w_imul_n hx hb dX5_write_58 ?_
          refine lv_iload_n hx hb dX5_write_59 rfl (lv_at hl 2 rfl) ?_
          refine w_iadd_n hx hb dX5_write_60 ?_
          refine lv_lload_n hx hb dX5_write_61 rfl (lv_at hl 3 rfl) ?_
          refine w_last (x := x) hF hB ⟨hM 36 (by decide), rfl⟩ (wM u (uJ (uB u.2.2 64 (0) ((12 * j_6) + j_14) (true)) 65 (0) ((12 * j_6) + j_14) (x))) (cn_36 env (wM u (uB u.2.2 64 (0) ((12 * j_6) + j_14) (true))) (0)) (by omega) (by decide) rfl rfl (cu_J65 env (wM u (uB u.2.2 64 (0) ((12 * j_6) + j_14) (true))) (0) ((12 * j_6) + j_14) (x)) dX5_write_62 (fun H locs hB => ?_)
          refine lv_aload_n hx hb dX5_write_63 rfl (lv_at hl 0 rfl) ?_
          refine lv_iload_n hx hb dX5_write_64 rfl (lv_at hl 1 rfl) ?_
          refine w_ci (r_V (As := [.int (nI (j_6))]) (rest := []) hF hB (c_X5_plain l env s0 X (wM u (uJ (uB u.2.2 64 (0) ((12 * j_6) + j_14) (true)) 65 (0) ((12 * j_6) + j_14) (x))) (a0) (0) (ha0) (j_6) hM (show MV (uJ (uB u.2.2 64 (0) ((12 * j_6) + j_14) (true)) 65 (0) ((12 * j_6) + j_14) (x)) from (show MV (uB u.2.2 64 (0) ((12 * j_6) + j_14) (true)) from hV)) hNm (by omega)) cv_X5_plain tw_3_234 ⟨rfl, rfl, by decide, by decide⟩ (hB.recv ha0 (cn_20 env (wM u (uJ (uB u.2.2 64 (0) ((12 * j_6) + j_14) (true)) 65 (0) ((12 * j_6) + j_14) (x))) (0)) rfl) rfl hl.1 rfl (lv_room (by decide)) dX5_write_65 ⟨Nat.le_of_ble_eq_true rfl, Nat.le_of_ble_eq_true rfl⟩) hB (fun r_19 u_21 H locs hq_20 hB => ?_)
          obtain ⟨rfl, rfl⟩ := hq_20
          show W p l e _ s m _ below meth c H locs _ _ _ (F0 m _ ls [.int (nI (mPlain (uJ (uB u.2.2 64 (0) ((12 * j_6) + j_14) (true)) 65 (0) ((12 * j_6) + j_14) (x)) (j_6)))])
          exact w_iret (v := nI (mPlain (uJ (uB u.2.2 64 (0) ((12 * j_6) + j_14) (true)) 65 (0) ((12 * j_6) + j_14) (x)) (j_6))) hF hr hlocks hB (⟨by first | (simp [mwrite, mWr, hj_7, hj_15, c_17, c_18]; done) | (simp [mwrite, mWr, hj_7, hj_15, c_17, c_18]; rfl) | (simp [mwrite, mWr, hj_7, hj_15, c_17, c_18] <;> omega), by first | (simp [mwrite, mWr, hj_7, hj_15, c_17, c_18]; done) | (simp [mwrite, mWr, hj_7, hj_15, c_17, c_18]; rfl) | (simp [mwrite, mWr, hj_7, hj_15, c_17, c_18] <;> omega)⟩) dX5_write_68
        · refine lv_bipush (v := -2) hx hb dX5_write_36 (by decide) ?_
          exact w_iret (v := -2) hF hr hlocks hB (⟨by first | (simp [mwrite, mWr, hj_7, hj_15, c_17, c_18]; done) | (simp [mwrite, mWr, hj_7, hj_15, c_17, c_18]; rfl) | (simp [mwrite, mWr, hj_7, hj_15, c_17, c_18] <;> omega), by first | (simp [mwrite, mWr, hj_7, hj_15, c_17, c_18]; done) | (simp [mwrite, mWr, hj_7, hj_15, c_17, c_18]; rfl) | (simp [mwrite, mWr, hj_7, hj_15, c_17, c_18] <;> omega)⟩) dX5_write_38
      · refine lv_iconst (v := -1) hx hb dX5_write_25 (by decide) ?_
        exact w_iret (v := -1) hF hr hlocks hB (⟨by first | (simp [mwrite, mWr, hj_7, hj_15, c_17]; done) | (simp [mwrite, mWr, hj_7, hj_15, c_17]; rfl) | (simp [mwrite, mWr, hj_7, hj_15, c_17] <;> omega), by first | (simp [mwrite, mWr, hj_7, hj_15, c_17]; done) | (simp [mwrite, mWr, hj_7, hj_15, c_17]; rfl) | (simp [mwrite, mWr, hj_7, hj_15, c_17] <;> omega)⟩) dX5_write_26
set_option maxHeartbeats 4000000 in
set_option maxRecDepth 100000 in
theorem c_X5_add (l : Launch) (env : Ev) (s0 : Nat) (X : va_W) (u : St) (a0 : Nat) (_xa0 : Nat) (ha0 : At u 20 (0) a0) (v1 : Int32) (v2 : Int32) (v3 : Int32) (x : Int32) (hM : MI u) (hV : MV u.2.2) (hNm : Nb u.2.2) : Met l yX5_add [Cond.code yX5_add cX5_add 5 (some .int)] { frames := 2, cells := 0, slots := 0, locals := 46 } (va_Pc [.ref (a0), .int (v1), .int (v2), .int (v3), .int (x)] (Pr env s0 X u)) (va_Qi (fun r u' => u' = wM u ((madd u.2.2 v1 v2 v3 x).2) ∧ r = (madd u.2.2 v1 v2 v3 x).1) (Po env s0 X) (fun q => s0 ≤ q)) 0 0 (fun q => s0 ≤ q) := by
  refine Met.ofW (cc := cX5_add) (maxL := 5) (ret := (some .int)) (by decide) rfl ?_
  intro p e s m args below meth c s₁ B hml hv
  obtain ⟨rfl, hv⟩ := hv
  have hx := B.exec
  have hb := B.bytes
  have hr := B.returns
  have hts : ∀ ww ∈ TT, ww.before #[.ref (a0), .int (v1), .int (v2), .int (v3), .int (x)] s = true := fun ww hw => hv.2.1 ww hw _
  have hown : s.vm.findClass RX5 = some m.cls := findClass_of_methodNamed B.named
  have hlocks := B.notSynchronized
  have hF : CallFix p m c cX5_add 5 s #[.ref (a0), .int (v1), .int (v2), .int (v3), .int (x)] TT RX5 := ⟨hx, hb, hml, hown, hts⟩
  have hB := Bd.entry hv
  have hl := lv_entry ([.ref (a0), .int (v1), .int (v2), .int (v3), .int (x)]) (n := 5) (Nat.le_of_ble_eq_true rfl)
  rw [lg_entry_eq]
  generalize (lg_sl ([.ref (a0), .int (v1), .int (v2), .int (v3), .int (x)]) ++ List.replicate (5 - (lg_sl ([.ref (a0), .int (v1), .int (v2), .int (v3), .int (x)])).length) Slot.unset).toArray = ls at hl ⊢
  have hl : lv_has ls 5 [(0, .ref (a0)), (1, .int (v1)), (2, .int (v2)), (3, .int (v3)), (4, .int (x))] := hl
  have hn1 := hV.nth
  have hn2 := hV.ntx
  have hn3 := hV.nst
  have hn4 := hV.nms
  refine lv_aload_n hx hb dX5_add_0 rfl (lv_at hl 0 rfl) ?_
  refine lv_iload_n hx hb dX5_add_1 rfl (lv_at hl 1 rfl) ?_
  refine w_ci (r_V (As := [.int (v1)]) (rest := []) hF hB (c_X5_is l env s0 X u (a0) (0) (ha0) (v1) hM hNm) cv_X5_is tw_3_202 ⟨rfl, rfl, by decide, by decide⟩ (hB.recv ha0 (cn_20 env u (0)) rfl) rfl hl.1 rfl (lv_room (by decide)) dX5_add_2 ⟨Nat.le_of_ble_eq_true rfl, Nat.le_of_ble_eq_true rfl⟩) hB (fun r_1 u_3 H locs hq_2 hB => ?_)
  obtain ⟨rfl, rfl⟩ := hq_2
  refine w_ifeq_b (tgt := 32) hx hb dX5_add_5 (by decide) (fun c_4 => ?_) (fun c_4 => ?_)
  · have hj_5 := Option.isSome_eq_false_iff.mp c_4
    rw [Option.isNone_iff_eq_none] at hj_5
    refine lv_iconst (v := -1) hx hb dX5_add_32 (by decide) ?_
    exact w_iret (v := -1) hF hr hlocks hB (⟨by first | (simp [madd, mAd, hj_5]; done) | (simp [madd, mAd, hj_5]; rfl) | (simp [madd, mAd, hj_5] <;> omega), by first | (simp [madd, mAd, hj_5]; done) | (simp [madd, mAd, hj_5]; rfl) | (simp [madd, mAd, hj_5] <;> omega)⟩) dX5_add_33
  · obtain ⟨j_6, hj_7⟩ := Option.isSome_iff_exists.mp c_4
    obtain ⟨hjl_8, rfl⟩ := ix_some (by have := hNm 55 0 0; omega) hj_7
    refine lv_aload_n hx hb dX5_add_8 rfl (lv_at hl 0 rfl) ?_
    refine lv_iload_n hx hb dX5_add_9 rfl (lv_at hl 2 rfl) ?_
    refine w_ci (r_V (As := [.int (v2)]) (rest := []) hF hB (c_X5_isThing l env s0 X u (a0) (0) (ha0) (v2) hM hNm) cv_X5_isThing tw_3_206 ⟨rfl, rfl, by decide, by decide⟩ (hB.recv ha0 (cn_20 env u (0)) rfl) rfl hl.1 rfl (lv_room (by decide)) dX5_add_10 ⟨Nat.le_of_ble_eq_true rfl, Nat.le_of_ble_eq_true rfl⟩) hB (fun r_9 u_11 H locs hq_10 hB => ?_)
    obtain ⟨rfl, rfl⟩ := hq_10
    refine w_ifeq_b (tgt := 32) hx hb dX5_add_13 (by decide) (fun c_12 => ?_) (fun c_12 => ?_)
    · have hj_13 := Option.isSome_eq_false_iff.mp c_12
      rw [Option.isNone_iff_eq_none] at hj_13
      refine lv_iconst (v := -1) hx hb dX5_add_32 (by decide) ?_
      exact w_iret (v := -1) hF hr hlocks hB (⟨by first | (simp [madd, mAd, hj_7, hj_13]; done) | (simp [madd, mAd, hj_7, hj_13]; rfl) | (simp [madd, mAd, hj_7, hj_13] <;> omega), by first | (simp [madd, mAd, hj_7, hj_13]; done) | (simp [madd, mAd, hj_7, hj_13]; rfl) | (simp [madd, mAd, hj_7, hj_13] <;> omega)⟩) dX5_add_33
    · obtain ⟨j_14, hj_15⟩ := Option.isSome_iff_exists.mp c_12
      obtain ⟨hjl_16, rfl⟩ := ix_some (by have := hNm 52 0 0; omega) hj_15
      refine lv_aload_n hx hb dX5_add_16 rfl (lv_at hl 0 rfl) ?_
      refine w_get (v := .ref (sA u 25 0)) (fk := 4) hF hB ha0 (cn_20 env u (0)) rfl in_X5 (by decide) tw_3_99 rfl rfl dX5_add_17 ?_
      refine lv_iload_n hx hb dX5_add_20 rfl (lv_at hl 2 rfl) ?_
      refine w_zald (v := .int (b2i (gB u.2.2 54 (0) (j_14)))) hF hB ⟨hM 25 (by decide), rfl⟩ (cn_25 env u (0)) (by omega) rfl (by decide) dX5_add_21 ?_
      refine w_ifeq_b (tgt := 32) hx hb dX5_add_22 (by decide) (fun c_17 => ?_) (fun c_17 => ?_)
      · refine lv_iconst (v := -1) hx hb dX5_add_32 (by decide) ?_
        exact w_iret (v := -1) hF hr hlocks hB (⟨by first | (simp [madd, mAd, hj_7, hj_15, c_17]; done) | (simp [madd, mAd, hj_7, hj_15, c_17]; rfl) | (simp [madd, mAd, hj_7, hj_15, c_17] <;> omega), by first | (simp [madd, mAd, hj_7, hj_15, c_17]; done) | (simp [madd, mAd, hj_7, hj_15, c_17]; rfl) | (simp [madd, mAd, hj_7, hj_15, c_17] <;> omega)⟩) dX5_add_33
      · refine lv_iload_n hx hb dX5_add_25 rfl (lv_at hl 3 rfl) ?_
        refine w_ci (r_S (As := [.int (v3)]) (rest := []) hF hB (c_X5_isElement l env s0 X u (v3) ) cs_X5_isElement tw_3_218 ⟨rfl, rfl, by decide, by decide⟩ rfl hl.1 rfl (lv_room (by decide)) dX5_add_26 ⟨Nat.le_of_ble_eq_true rfl, Nat.le_of_ble_eq_true rfl⟩) hB (fun r_18 u_20 H locs hq_19 hB => ?_)
        obtain ⟨rfl, rfl⟩ := hq_19
        refine w_ifne_b (tgt := 34) hx hb dX5_add_29 (by decide) (fun c_21 => ?_) (fun c_21 => ?_)
        · obtain ⟨j_22, hj_23⟩ := Option.isSome_iff_exists.mp c_21
          obtain ⟨hjl_24, rfl⟩ := ix_some (by decide) hj_23
          refine lv_aload_n hx hb dX5_add_34 rfl (lv_at hl 0 rfl) ?_
          refine w_get (v := .ref (sA u 28 0)) (fk := 7) hF hB ha0 (cn_20 env u (0)) rfl in_X5 (by decide) tw_3_102 rfl rfl dX5_add_35 ?_
          refine lv_iload_n hx hb dX5_add_38 rfl (lv_at hl 1 rfl) ?_
          refine w_iald (v := .int (nI (gN u.2.2 57 (0) (j_6)))) hF hB ⟨hM 28 (by decide), rfl⟩ (cn_28 env u (0)) (by omega) rfl (by decide) dX5_add_39 ?_
          refine w_ifeq_n (tgt := 46) (by have := hNm 57 (0) (j_6); omega) hx hb dX5_add_40 (by decide) (fun c_25 => ?_) (fun c_25 => ?_)
          · refine lv_aload_n hx hb dX5_add_46 rfl (lv_at hl 0 rfl) ?_
            refine w_get (v := .ref (sA u 37 0)) (fk := 16) hF hB ha0 (cn_20 env u (0)) rfl in_X5 (by decide) tw_3_111 rfl rfl dX5_add_47 ?_
            refine lv_bipush (v := nI 12) hx hb dX5_add_50 (by decide) ?_
            refine lv_iload_n hx hb dX5_add_52 rfl (lv_at hl 1 rfl) ?_
            refine w_imul_n hx hb dX5_add_53 ?_
            refine lv_iload_n hx hb dX5_add_54 rfl (lv_at hl 2 rfl) ?_
            refine w_iadd_n hx hb dX5_add_55 ?_
            refine lv_iconst (v := nI 1) hx hb dX5_add_56 (by decide) ?_
            refine w_zast (x := b2i (true)) hF hB ⟨hM 37 (by decide), rfl⟩ (wM u (uB u.2.2 66 (0) ((12 * j_6) + j_14) (true))) (cn_37 env u (0)) (by omega) (by decide) (b2i_vnar _) rfl rfl (cu_B66 env u (0) ((12 * j_6) + j_14) (true)) dX5_add_57 (fun H locs hB => ?_)
            refine lv_aload_n hx hb dX5_add_58 rfl (lv_at hl 0 rfl) ?_
            refine w_get (v := .ref (sA u 38 0)) (fk := 17) hF hB ha0 (cn_20 env (wM u (uB u.2.2 66 (0) ((12 * j_6) + j_14) (true))) (0)) rfl in_X5 (by decide) tw_3_112 rfl rfl dX5_add_59 ?_
            refine lv_bipush (v := nI 96) hx hb dX5_add_62 (by decide) ?_
            refine lv_iload_n hx hb dX5_add_64 rfl (lv_at hl 1 rfl) ?_
            refine w_imul_n hx hb dX5_add_65 ?_
            refine lv_bipush (v := nI 8) hx hb dX5_add_66 (by decide) ?_
            refine lv_iload_n hx hb dX5_add_68 rfl (lv_at hl 2 rfl) ?_
            refine w_imul_n hx hb dX5_add_69 ?_
            refine w_iadd_n hx hb dX5_add_70 ?_
            refine lv_iload_n hx hb dX5_add_71 rfl (lv_at hl 3 rfl) ?_
            refine w_iadd_n hx hb dX5_add_72 ?_
            refine lv_dup2_11 hx hb dX5_add_73 rfl rfl ?_
            refine w_lald (v := .long (gJ u.2.2 67 (0) (((96 * j_6) + (8 * j_14)) + j_22))) hF hB ⟨hM 38 (by decide), rfl⟩ (cn_38 env (wM u (uB u.2.2 66 (0) ((12 * j_6) + j_14) (true))) (0)) (by omega) rfl (by decide) dX5_add_74 ?_
            refine lv_iload hx hb dX5_add_75 (lv_at hl 4 rfl) ?_
            refine lv_i2l hx hb dX5_add_77 rfl ?_
            refine lv_ladd hx hb dX5_add_78 ?_
            refine w_last (x := (gJ u.2.2 67 (0) (((96 * j_6) + (8 * j_14)) + j_22)) + ((x).toInt64)) hF hB ⟨hM 38 (by decide), rfl⟩ (wM u (uJ (uB u.2.2 66 (0) ((12 * j_6) + j_14) (true)) 67 (0) (((96 * j_6) + (8 * j_14)) + j_22) ((gJ u.2.2 67 (0) (((96 * j_6) + (8 * j_14)) + j_22)) + ((x).toInt64)))) (cn_38 env (wM u (uB u.2.2 66 (0) ((12 * j_6) + j_14) (true))) (0)) (by omega) (by decide) rfl rfl (cu_J67 env (wM u (uB u.2.2 66 (0) ((12 * j_6) + j_14) (true))) (0) (((96 * j_6) + (8 * j_14)) + j_22) ((gJ u.2.2 67 (0) (((96 * j_6) + (8 * j_14)) + j_22)) + ((x).toInt64))) dX5_add_79 (fun H locs hB => ?_)
            refine lv_iconst (v := nI 1) hx hb dX5_add_80 (by decide) ?_
            exact w_iret (v := nI 1) hF hr hlocks hB (⟨by first | (simp [madd, mAd, hj_7, hj_15, c_17, hj_23, c_25]; done) | (simp [madd, mAd, hj_7, hj_15, c_17, hj_23, c_25]; rfl) | (simp [madd, mAd, hj_7, hj_15, c_17, hj_23, c_25] <;> omega), by first | (simp [madd, mAd, hj_7, hj_15, c_17, hj_23, c_25]; done) | (simp [madd, mAd, hj_7, hj_15, c_17, hj_23, c_25]; rfl) | (simp [madd, mAd, hj_7, hj_15, c_17, hj_23, c_25] <;> omega)⟩) dX5_add_81
          · refine lv_bipush (v := -2) hx hb dX5_add_43 (by decide) ?_
            exact w_iret (v := -2) hF hr hlocks hB (⟨by first | (simp [madd, mAd, hj_7, hj_15, c_17, hj_23, c_25]; done) | (simp [madd, mAd, hj_7, hj_15, c_17, hj_23, c_25]; rfl) | (simp [madd, mAd, hj_7, hj_15, c_17, hj_23, c_25] <;> omega), by first | (simp [madd, mAd, hj_7, hj_15, c_17, hj_23, c_25]; done) | (simp [madd, mAd, hj_7, hj_15, c_17, hj_23, c_25]; rfl) | (simp [madd, mAd, hj_7, hj_15, c_17, hj_23, c_25] <;> omega)⟩) dX5_add_45
        · have hj_26 := Option.isSome_eq_false_iff.mp c_21
          rw [Option.isNone_iff_eq_none] at hj_26
          refine lv_iconst (v := -1) hx hb dX5_add_32 (by decide) ?_
          exact w_iret (v := -1) hF hr hlocks hB (⟨by first | (simp [madd, mAd, hj_7, hj_15, c_17, hj_26]; done) | (simp [madd, mAd, hj_7, hj_15, c_17, hj_26]; rfl) | (simp [madd, mAd, hj_7, hj_15, c_17, hj_26] <;> omega), by first | (simp [madd, mAd, hj_7, hj_15, c_17, hj_26]; done) | (simp [madd, mAd, hj_7, hj_15, c_17, hj_26]; rfl) | (simp [madd, mAd, hj_7, hj_15, c_17, hj_26] <;> omega)⟩) dX5_add_33
set_option maxHeartbeats 4000000 in
set_option maxRecDepth 100000 in
theorem c_X5_thing (l : Launch) (env : Ev) (s0 : Nat) (X : va_W) (u : St) (a0 : Nat) (_xa0 : Nat) (ha0 : At u 20 (0) a0) (v1 : Int32) (b : Bool) (hM : MI u) (hV : MV u.2.2) (hNm : Nb u.2.2) : Met l yX5_thing [Cond.code yX5_thing cX5_thing 3 (some .int)] { frames := 2, cells := 0, slots := 0, locals := 46 } (va_Pc [.ref (a0), .int (v1), .int (b2i (b))] (Pr env s0 X u)) (va_Qi (fun r u' => u' = wM u ((mthing u.2.2 v1 b).2) ∧ r = (mthing u.2.2 v1 b).1) (Po env s0 X) (fun q => s0 ≤ q)) 0 0 (fun q => s0 ≤ q) := by
  refine Met.ofW (cc := cX5_thing) (maxL := 3) (ret := (some .int)) (by decide) rfl ?_
  intro p e s m args below meth c s₁ B hml hv
  obtain ⟨rfl, hv⟩ := hv
  have hx := B.exec
  have hb := B.bytes
  have hr := B.returns
  have hts : ∀ ww ∈ TT, ww.before #[.ref (a0), .int (v1), .int (b2i (b))] s = true := fun ww hw => hv.2.1 ww hw _
  have hown : s.vm.findClass RX5 = some m.cls := findClass_of_methodNamed B.named
  have hlocks := B.notSynchronized
  have hF : CallFix p m c cX5_thing 3 s #[.ref (a0), .int (v1), .int (b2i (b))] TT RX5 := ⟨hx, hb, hml, hown, hts⟩
  have hB := Bd.entry hv
  have hl := lv_entry ([.ref (a0), .int (v1), .int (b2i (b))]) (n := 3) (Nat.le_of_ble_eq_true rfl)
  rw [lg_entry_eq]
  generalize (lg_sl ([.ref (a0), .int (v1), .int (b2i (b))]) ++ List.replicate (3 - (lg_sl ([.ref (a0), .int (v1), .int (b2i (b))])).length) Slot.unset).toArray = ls at hl ⊢
  have hl : lv_has ls 3 [(0, .ref (a0)), (1, .int (v1)), (2, .int (b2i (b)))] := hl
  have hn1 := hV.nth
  have hn2 := hV.ntx
  have hn3 := hV.nst
  have hn4 := hV.nms
  refine lv_aload_n hx hb dX5_thing_0 rfl (lv_at hl 0 rfl) ?_
  refine lv_iload_n hx hb dX5_thing_1 rfl (lv_at hl 1 rfl) ?_
  refine w_ci (r_V (As := [.int (v1)]) (rest := []) hF hB (c_X5_isSite l env s0 X u (a0) (0) (ha0) (v1) hM hNm) cv_X5_isSite tw_3_190 ⟨rfl, rfl, by decide, by decide⟩ (hB.recv ha0 (cn_20 env u (0)) rfl) rfl hl.1 rfl (lv_room (by decide)) dX5_thing_2 ⟨Nat.le_of_ble_eq_true rfl, Nat.le_of_ble_eq_true rfl⟩) hB (fun r_1 u_3 H locs hq_2 hB => ?_)
  obtain ⟨rfl, rfl⟩ := hq_2
  refine w_ifne_b (tgt := 10) hx hb dX5_thing_5 (by decide) (fun c_4 => ?_) (fun c_4 => ?_)
  · obtain ⟨j_5, hj_6⟩ := Option.isSome_iff_exists.mp c_4
    obtain ⟨hjl_7, rfl⟩ := ix_some (by have := hNm 50 0 0; omega) hj_6
    refine lv_aload_n hx hb dX5_thing_10 rfl (lv_at hl 0 rfl) ?_
    refine w_get (v := .int (nI (gN u.2.2 52 (0) (0)))) (fk := 2) hF hB ha0 (cn_20 env u (0)) rfl in_X5 (by decide) tw_3_97 rfl rfl dX5_thing_11 ?_
    refine lv_bipush (v := nI 12) hx hb dX5_thing_14 (by decide) ?_
    refine w_icne_n (tgt := 22) (by have := hNm 52 (0) (0); omega) (by decide) hx hb dX5_thing_16 (by decide) (fun c_8 => ?_) (fun c_8 => ?_)
    · refine lv_aload_n hx hb dX5_thing_22 rfl (lv_at hl 0 rfl) ?_
      refine w_get (v := .ref (sA u 24 0)) (fk := 3) hF hB ha0 (cn_20 env u (0)) rfl in_X5 (by decide) tw_3_98 rfl rfl dX5_thing_23 ?_
      refine lv_aload_n hx hb dX5_thing_26 rfl (lv_at hl 0 rfl) ?_
      refine w_get (v := .int (nI (gN u.2.2 52 (0) (0)))) (fk := 2) hF hB ha0 (cn_20 env u (0)) rfl in_X5 (by decide) tw_3_97 rfl rfl dX5_thing_27 ?_
      refine lv_iload_n hx hb dX5_thing_30 rfl (lv_at hl 1 rfl) ?_
      refine w_iast (x := nI (j_5)) hF hB ⟨hM 24 (by decide), rfl⟩ (wM u (uN u.2.2 53 (0) (gN u.2.2 52 (0) (0)) (j_5))) (cn_24 env u (0)) (by have := hV.nth; omega) (by decide) rfl rfl (cu_N53 env u (0) (gN u.2.2 52 (0) (0)) (j_5)) dX5_thing_31 (fun H locs hB => ?_)
      refine lv_aload_n hx hb dX5_thing_32 rfl (lv_at hl 0 rfl) ?_
      refine w_get (v := .ref (sA u 25 0)) (fk := 4) hF hB ha0 (cn_20 env (wM u (uN u.2.2 53 (0) (gN u.2.2 52 (0) (0)) (j_5))) (0)) rfl in_X5 (by decide) tw_3_99 rfl rfl dX5_thing_33 ?_
      refine lv_aload_n hx hb dX5_thing_36 rfl (lv_at hl 0 rfl) ?_
      refine w_get (v := .int (nI (gN u.2.2 52 (0) (0)))) (fk := 2) hF hB ha0 (cn_20 env (wM u (uN u.2.2 53 (0) (gN u.2.2 52 (0) (0)) (j_5))) (0)) rfl in_X5 (by decide) tw_3_97 rfl rfl dX5_thing_37 ?_
      refine lv_iload_n hx hb dX5_thing_40 rfl (lv_at hl 2 rfl) ?_
      refine w_zast (x := b2i (b)) hF hB ⟨hM 25 (by decide), rfl⟩ (wM u (uB (uN u.2.2 53 (0) (gN u.2.2 52 (0) (0)) (j_5)) 54 (0) (gN u.2.2 52 (0) (0)) (b))) (cn_25 env (wM u (uN u.2.2 53 (0) (gN u.2.2 52 (0) (0)) (j_5))) (0)) (by have := hV.nth; omega) (by decide) (b2i_vnar _) rfl rfl (cu_B54 env (wM u (uN u.2.2 53 (0) (gN u.2.2 52 (0) (0)) (j_5))) (0) (gN u.2.2 52 (0) (0)) (b)) dX5_thing_41 (fun H locs hB => ?_)
      refine lv_aload_n hx hb dX5_thing_42 rfl (lv_at hl 0 rfl) ?_
      refine lv_dup hx hb dX5_thing_43 rfl ?_
      refine w_get (v := .int (nI (gN u.2.2 52 (0) (0)))) (fk := 2) hF hB ha0 (cn_20 env (wM u (uB (uN u.2.2 53 (0) (gN u.2.2 52 (0) (0)) (j_5)) 54 (0) (gN u.2.2 52 (0) (0)) (b))) (0)) rfl in_X5 (by decide) tw_3_97 rfl rfl dX5_thing_44 ?_
      refine lv_iconst (v := nI 1) hx hb dX5_thing_47 (by decide) ?_
      refine w_iadd_n hx hb dX5_thing_48 ?_
      refine w_put (fk := 2) (v := .int (nI ((gN u.2.2 52 (0) (0)) + 1))) (ty := .int) hF hB ha0 (wM u (uN (uB (uN u.2.2 53 (0) (gN u.2.2 52 (0) (0)) (j_5)) 54 (0) (gN u.2.2 52 (0) (0)) (b)) 52 (0) (0) ((gN u.2.2 52 (0) (0)) + 1))) (cn_20 env (wM u (uB (uN u.2.2 53 (0) (gN u.2.2 52 (0) (0)) (j_5)) 54 (0) (gN u.2.2 52 (0) (0)) (b))) (0)) rfl in_X5 tyX5 tyX5_ok nmX5 (by decide) tw_3_97 rfl rfl (by decide +kernel) rfl rfl (Nat.le_of_ble_eq_true rfl) rfl rfl (cu_N52 env (wM u (uB (uN u.2.2 53 (0) (gN u.2.2 52 (0) (0)) (j_5)) 54 (0) (gN u.2.2 52 (0) (0)) (b))) (0) ((gN u.2.2 52 (0) (0)) + 1)) dX5_thing_49 (fun H locs hB => ?_)
      refine lv_aload_n hx hb dX5_thing_52 rfl (lv_at hl 0 rfl) ?_
      refine w_get (v := .int (nI ((gN u.2.2 52 (0) (0)) + 1))) (fk := 2) hF hB ha0 (cn_20 env (wM u (uN (uB (uN u.2.2 53 (0) (gN u.2.2 52 (0) (0)) (j_5)) 54 (0) (gN u.2.2 52 (0) (0)) (b)) 52 (0) (0) ((gN u.2.2 52 (0) (0)) + 1))) (0)) rfl in_X5 (by decide) tw_3_97 rfl rfl dX5_thing_53 ?_
      refine lv_iconst (v := nI 1) hx hb dX5_thing_56 (by decide) ?_
      refine w_isub_n (by omega) hx hb dX5_thing_57 ?_
      exact w_iret (v := nI (((gN u.2.2 52 (0) (0)) + 1) - 1)) hF hr hlocks hB (⟨by first | (simp [mthing, hj_6, c_8]; done) | (simp [mthing, hj_6, c_8]; rfl) | (simp [mthing, hj_6, c_8] <;> omega), by first | (simp [mthing, hj_6, c_8]; done) | (simp [mthing, hj_6, c_8]; rfl) | (simp [mthing, hj_6, c_8] <;> omega)⟩) dX5_thing_58
    · refine lv_bipush (v := -3) hx hb dX5_thing_19 (by decide) ?_
      exact w_iret (v := -3) hF hr hlocks hB (⟨by first | (simp [mthing, hj_6, c_8]; done) | (simp [mthing, hj_6, c_8]; rfl) | (simp [mthing, hj_6, c_8] <;> omega), by first | (simp [mthing, hj_6, c_8]; done) | (simp [mthing, hj_6, c_8]; rfl) | (simp [mthing, hj_6, c_8] <;> omega)⟩) dX5_thing_21
  · have hj_9 := Option.isSome_eq_false_iff.mp c_4
    rw [Option.isNone_iff_eq_none] at hj_9
    refine lv_iconst (v := -1) hx hb dX5_thing_8 (by decide) ?_
    exact w_iret (v := -1) hF hr hlocks hB (⟨by first | (simp [mthing, hj_9]; done) | (simp [mthing, hj_9]; rfl) | (simp [mthing, hj_9] <;> omega), by first | (simp [mthing, hj_9]; done) | (simp [mthing, hj_9]; rfl) | (simp [mthing, hj_9] <;> omega)⟩) dX5_thing_9
set_option maxHeartbeats 4000000 in
set_option maxRecDepth 100000 in
theorem c_X5_begin (l : Launch) (env : Ev) (s0 : Nat) (X : va_W) (u : St) (a0 : Nat) (_xa0 : Nat) (ha0 : At u 20 (0) a0) (v1 : Int32) (hM : MI u) (hV : MV u.2.2) (hNm : Nb u.2.2) : Met l yX5_begin [Cond.code yX5_begin cX5_begin 3 (some .int)] { frames := 2, cells := 0, slots := 0, locals := 46 } (va_Pc [.ref (a0), .int (v1)] (Pr env s0 X u)) (va_Qi (fun r u' => u' = wM u ((mbegin u.2.2 v1).2) ∧ r = (mbegin u.2.2 v1).1) (Po env s0 X) (fun q => s0 ≤ q)) 0 0 (fun q => s0 ≤ q) := by
  refine Met.ofW (cc := cX5_begin) (maxL := 3) (ret := (some .int)) (by decide) rfl ?_
  intro p e s m args below meth c s₁ B hml hv
  obtain ⟨rfl, hv⟩ := hv
  have hx := B.exec
  have hb := B.bytes
  have hr := B.returns
  have hts : ∀ ww ∈ TT, ww.before #[.ref (a0), .int (v1)] s = true := fun ww hw => hv.2.1 ww hw _
  have hown : s.vm.findClass RX5 = some m.cls := findClass_of_methodNamed B.named
  have hlocks := B.notSynchronized
  have hF : CallFix p m c cX5_begin 3 s #[.ref (a0), .int (v1)] TT RX5 := ⟨hx, hb, hml, hown, hts⟩
  have hB := Bd.entry hv
  have hl := lv_entry ([.ref (a0), .int (v1)]) (n := 3) (Nat.le_of_ble_eq_true rfl)
  rw [lg_entry_eq]
  generalize (lg_sl ([.ref (a0), .int (v1)]) ++ List.replicate (3 - (lg_sl ([.ref (a0), .int (v1)])).length) Slot.unset).toArray = ls at hl ⊢
  have hl : lv_has ls 3 [(0, .ref (a0)), (1, .int (v1))] := hl
  have hn1 := hV.nth
  have hn2 := hV.ntx
  have hn3 := hV.nst
  have hn4 := hV.nms
  refine lv_aload_n hx hb dX5_begin_0 rfl (lv_at hl 0 rfl) ?_
  refine lv_iload_n hx hb dX5_begin_1 rfl (lv_at hl 1 rfl) ?_
  refine w_ci (r_V (As := [.int (v1)]) (rest := []) hF hB (c_X5_isSite l env s0 X u (a0) (0) (ha0) (v1) hM hNm) cv_X5_isSite tw_3_190 ⟨rfl, rfl, by decide, by decide⟩ (hB.recv ha0 (cn_20 env u (0)) rfl) rfl hl.1 rfl (lv_room (by decide)) dX5_begin_2 ⟨Nat.le_of_ble_eq_true rfl, Nat.le_of_ble_eq_true rfl⟩) hB (fun r_1 u_3 H locs hq_2 hB => ?_)
  obtain ⟨rfl, rfl⟩ := hq_2
  refine w_ifne_b (tgt := 10) hx hb dX5_begin_5 (by decide) (fun c_4 => ?_) (fun c_4 => ?_)
  · obtain ⟨j_5, hj_6⟩ := Option.isSome_iff_exists.mp c_4
    obtain ⟨hjl_7, rfl⟩ := ix_some (by have := hNm 50 0 0; omega) hj_6
    refine lv_aload_n hx hb dX5_begin_10 rfl (lv_at hl 0 rfl) ?_
    refine w_get (v := .int (nI (gN u.2.2 55 (0) (0)))) (fk := 5) hF hB ha0 (cn_20 env u (0)) rfl in_X5 (by decide) tw_3_100 rfl rfl dX5_begin_11 ?_
    refine lv_sipush (v := nI 150) hx hb dX5_begin_14 (by decide) ?_
    refine w_icne_n (tgt := 23) (by have := hNm 55 (0) (0); omega) (by decide) hx hb dX5_begin_17 (by decide) (fun c_8 => ?_) (fun c_8 => ?_)
    · refine lv_aload_n hx hb dX5_begin_23 rfl (lv_at hl 0 rfl) ?_
      refine w_get (v := .ref (sA u 27 0)) (fk := 6) hF hB ha0 (cn_20 env u (0)) rfl in_X5 (by decide) tw_3_101 rfl rfl dX5_begin_24 ?_
      refine lv_aload_n hx hb dX5_begin_27 rfl (lv_at hl 0 rfl) ?_
      refine w_get (v := .int (nI (gN u.2.2 55 (0) (0)))) (fk := 5) hF hB ha0 (cn_20 env u (0)) rfl in_X5 (by decide) tw_3_100 rfl rfl dX5_begin_28 ?_
      refine lv_iload_n hx hb dX5_begin_31 rfl (lv_at hl 1 rfl) ?_
      refine w_iast (x := nI (j_5)) hF hB ⟨hM 27 (by decide), rfl⟩ (wM u (uN u.2.2 56 (0) (gN u.2.2 55 (0) (0)) (j_5))) (cn_27 env u (0)) (by have := hV.ntx; omega) (by decide) rfl rfl (cu_N56 env u (0) (gN u.2.2 55 (0) (0)) (j_5)) dX5_begin_32 (fun H locs hB => ?_)
      refine lv_iconst (v := nI 0) hx hb dX5_begin_33 (by decide) ?_
      refine lv_istore_n (lv' := [(2, .int (nI (0))), (0, .ref (a0)), (1, .int (nI (j_5)))]) hx hb dX5_begin_34 rfl hl (by decide) rfl (fun ls hl => ?_)
      refine wloopH (σ := Heap × List Loc × Array Slot) (G := fun x => W p l e _ s m _ below meth c x.1 x.2.1 _ _ _ (F0 m 35 x.2.2 [])) (P := fun i_9 x => (True) ∧ Bd env s0 X (wM u (mBegL (uN u.2.2 56 0 (gN u.2.2 55 0 0) j_5) j_5 i_9)) s x.1 x.2.1 ∧ lv_has x.2.2 3 [(0, .ref (a0)), (1, .int (nI (j_5))), (2, .int (nI (i_9)))]) (N := 4) ?_ 0 (_, _, ls) (Nat.zero_le _) ⟨trivial, hB, lv_sub hl [1, 2, 0] rfl⟩
      rintro i_9 ⟨H, locs, ls⟩ hi_10 ⟨hv_11, hB, hl⟩ ih35
      replace hB : Bd env s0 X (wM u (mBegL (uN u.2.2 56 0 (gN u.2.2 55 0 0) j_5) j_5 i_9)) s H locs := hB
      replace hl : lv_has ls 3 [(0, .ref (a0)), (1, .int (nI (j_5))), (2, .int (nI (i_9)))] := hl
      show W p l e _ s m _ below meth c H locs _ _ _ (F0 m 35 ls [])
      have hV_12 : MV (mBegL (uN u.2.2 56 0 (gN u.2.2 55 0 0) j_5) j_5 i_9) := mBegL_V (MV.u56 hV (j := gN u.2.2 55 (0) (0)) (v := j_5) (by omega)) j_5 _
      have hNm_13 : Nb (mBegL (uN u.2.2 56 0 (gN u.2.2 55 0 0) j_5) j_5 i_9) := mBegL_Nb (Nb.uN hNm (f := 56) (i := 0) (j := gN u.2.2 55 (0) (0)) (v := j_5) (by omega)) j_5 _
      refine lv_iload_n hx hb dX5_begin_35 rfl (lv_at hl 2 rfl) ?_
      refine lv_iconst (v := nI 4) hx hb dX5_begin_36 (by decide) ?_
      refine w_icge_n (tgt := 69) (by omega) (by decide) hx hb dX5_begin_37 (by decide) (fun c_14 => ?_) (fun c_14 => ?_)
      · obtain rfl : i_9 = 4 := by omega
        have eM : gN (mBegL (uN u.2.2 56 0 (gN u.2.2 55 0 0) j_5) j_5 4) 55 0 0 = gN u.2.2 55 0 0 := by rw [mBegL_f _ _ (by decide)]; rfl
        refine lv_aload_n hx hb dX5_begin_69 rfl (lv_at hl 0 rfl) ?_
        refine lv_dup hx hb dX5_begin_70 rfl ?_
        refine w_get (v := .int (nI (gN (mBegL (uN u.2.2 56 0 (gN u.2.2 55 0 0) j_5) j_5 4) 55 (0) (0)))) (fk := 5) hF hB ha0 (cn_20 env (wM u (mBegL (uN u.2.2 56 0 (gN u.2.2 55 0 0) j_5) j_5 4)) (0)) rfl in_X5 (by decide) tw_3_100 rfl rfl dX5_begin_71 ?_
        refine lv_iconst (v := nI 1) hx hb dX5_begin_74 (by decide) ?_
        refine w_iadd_n hx hb dX5_begin_75 ?_
        refine w_put (fk := 5) (v := .int (nI ((gN (mBegL (uN u.2.2 56 0 (gN u.2.2 55 0 0) j_5) j_5 4) 55 (0) (0)) + 1))) (ty := .int) hF hB ha0 (wM u (uN (mBegL (uN u.2.2 56 0 (gN u.2.2 55 0 0) j_5) j_5 4) 55 (0) (0) ((gN (mBegL (uN u.2.2 56 0 (gN u.2.2 55 0 0) j_5) j_5 4) 55 (0) (0)) + 1))) (cn_20 env (wM u (mBegL (uN u.2.2 56 0 (gN u.2.2 55 0 0) j_5) j_5 4)) (0)) rfl in_X5 tyX5 tyX5_ok nmX5 (by decide) tw_3_100 rfl rfl (by decide +kernel) rfl rfl (Nat.le_of_ble_eq_true rfl) rfl rfl (cu_N55 env (wM u (mBegL (uN u.2.2 56 0 (gN u.2.2 55 0 0) j_5) j_5 4)) (0) ((gN (mBegL (uN u.2.2 56 0 (gN u.2.2 55 0 0) j_5) j_5 4) 55 (0) (0)) + 1)) dX5_begin_76 (fun H locs hB => ?_)
        refine lv_aload_n hx hb dX5_begin_79 rfl (lv_at hl 0 rfl) ?_
        refine w_get (v := .int (nI ((gN (mBegL (uN u.2.2 56 0 (gN u.2.2 55 0 0) j_5) j_5 4) 55 (0) (0)) + 1))) (fk := 5) hF hB ha0 (cn_20 env (wM u (uN (mBegL (uN u.2.2 56 0 (gN u.2.2 55 0 0) j_5) j_5 4) 55 (0) (0) ((gN (mBegL (uN u.2.2 56 0 (gN u.2.2 55 0 0) j_5) j_5 4) 55 (0) (0)) + 1))) (0)) rfl in_X5 (by decide) tw_3_100 rfl rfl dX5_begin_80 ?_
        refine lv_iconst (v := nI 1) hx hb dX5_begin_83 (by decide) ?_
        refine w_isub_n (by omega) hx hb dX5_begin_84 ?_
        exact w_iret (v := nI (((gN (mBegL (uN u.2.2 56 0 (gN u.2.2 55 0 0) j_5) j_5 4) 55 (0) (0)) + 1) - 1)) hF hr hlocks hB (⟨by simp only [mbegin, hj_6, if_neg c_8]; rw [eM], by simp only [mbegin, hj_6, if_neg c_8]; rw [eM]; simp⟩) dX5_begin_85
      · have eM : gN (mBegL (uN u.2.2 56 0 (gN u.2.2 55 0 0) j_5) j_5 i_9) 55 0 0 = gN u.2.2 55 0 0 := by rw [mBegL_f _ _ (by decide)]; rfl
        refine lv_aload_n hx hb dX5_begin_40 rfl (lv_at hl 0 rfl) ?_
        refine w_get (v := .ref (sA u 29 0)) (fk := 8) hF hB ha0 (cn_20 env (wM u (mBegL (uN u.2.2 56 0 (gN u.2.2 55 0 0) j_5) j_5 i_9)) (0)) rfl in_X5 (by decide) tw_3_103 rfl rfl dX5_begin_41 ?_
        refine lv_iconst (v := nI 4) hx hb dX5_begin_44 (by decide) ?_
        refine lv_aload_n hx hb dX5_begin_45 rfl (lv_at hl 0 rfl) ?_
        refine w_get (v := .int (nI (gN (mBegL (uN u.2.2 56 0 (gN u.2.2 55 0 0) j_5) j_5 i_9) 55 (0) (0)))) (fk := 5) hF hB ha0 (cn_20 env (wM u (mBegL (uN u.2.2 56 0 (gN u.2.2 55 0 0) j_5) j_5 i_9)) (0)) rfl in_X5 (by decide) tw_3_100 rfl rfl dX5_begin_46 ?_
        refine w_imul_n hx hb dX5_begin_49 ?_
        refine lv_iload_n hx hb dX5_begin_50 rfl (lv_at hl 2 rfl) ?_
        refine w_iadd_n hx hb dX5_begin_51 ?_
        refine lv_aload_n hx hb dX5_begin_52 rfl (lv_at hl 0 rfl) ?_
        refine w_get (v := .ref (sA u 39 0)) (fk := 18) hF hB ha0 (cn_20 env (wM u (mBegL (uN u.2.2 56 0 (gN u.2.2 55 0 0) j_5) j_5 i_9)) (0)) rfl in_X5 (by decide) tw_3_113 rfl rfl dX5_begin_53 ?_
        refine lv_iconst (v := nI 4) hx hb dX5_begin_56 (by decide) ?_
        refine lv_iload_n hx hb dX5_begin_57 rfl (lv_at hl 1 rfl) ?_
        refine w_imul_n hx hb dX5_begin_58 ?_
        refine lv_iload_n hx hb dX5_begin_59 rfl (lv_at hl 2 rfl) ?_
        refine w_iadd_n hx hb dX5_begin_60 ?_
        refine w_iald (v := .int (nI (gN (mBegL (uN u.2.2 56 0 (gN u.2.2 55 0 0) j_5) j_5 i_9) 68 (0) ((4 * j_5) + i_9)))) hF hB ⟨hM 39 (by decide), rfl⟩ (cn_39 env (wM u (mBegL (uN u.2.2 56 0 (gN u.2.2 55 0 0) j_5) j_5 i_9)) (0)) (by omega) rfl (by decide) dX5_begin_61 ?_
        refine w_iast (x := nI (gN (mBegL (uN u.2.2 56 0 (gN u.2.2 55 0 0) j_5) j_5 i_9) 68 (0) ((4 * j_5) + i_9))) hF hB ⟨hM 29 (by decide), rfl⟩ (wM u (uN (mBegL (uN u.2.2 56 0 (gN u.2.2 55 0 0) j_5) j_5 i_9) 58 (0) ((4 * (gN (mBegL (uN u.2.2 56 0 (gN u.2.2 55 0 0) j_5) j_5 i_9) 55 (0) (0))) + i_9) (gN (mBegL (uN u.2.2 56 0 (gN u.2.2 55 0 0) j_5) j_5 i_9) 68 (0) ((4 * j_5) + i_9)))) (cn_29 env (wM u (mBegL (uN u.2.2 56 0 (gN u.2.2 55 0 0) j_5) j_5 i_9)) (0)) (by have := hV_12.ntx; have := hV.ntx; omega) (by decide) rfl rfl (cu_N58 env (wM u (mBegL (uN u.2.2 56 0 (gN u.2.2 55 0 0) j_5) j_5 i_9)) (0) ((4 * (gN (mBegL (uN u.2.2 56 0 (gN u.2.2 55 0 0) j_5) j_5 i_9) 55 (0) (0))) + i_9) (gN (mBegL (uN u.2.2 56 0 (gN u.2.2 55 0 0) j_5) j_5 i_9) 68 (0) ((4 * j_5) + i_9))) dX5_begin_62 (fun H locs hB => ?_)
        refine lv_iinc (v := nI (i_9 + 1)) (lv' := [(2, .int (nI (i_9 + 1))), (0, .ref (a0)), (1, .int (nI (j_5)))]) hx hb dX5_begin_63 hl (k := 2) rfl (nI_add _ _) (by decide) rfl (fun ls hl => ?_)
        refine lv_goto (tgt := 35) hx hb dX5_begin_66 (by decide) ?_
        have em_15 : (mBegL (uN u.2.2 56 0 (gN u.2.2 55 0 0) j_5) j_5 (i_9 + 1)) = (uN (mBegL (uN u.2.2 56 0 (gN u.2.2 55 0 0) j_5) j_5 i_9) 58 (0) ((4 * (gN (mBegL (uN u.2.2 56 0 (gN u.2.2 55 0 0) j_5) j_5 i_9) 55 (0) (0))) + i_9) (gN (mBegL (uN u.2.2 56 0 (gN u.2.2 55 0 0) j_5) j_5 i_9) 68 (0) ((4 * j_5) + i_9))) := by first | rfl | simp [c_14]
        exact ih35 (H, locs, ls) (by omega) ⟨trivial, (by rw [em_15]; exact hB), by exact lv_sub hl [1, 2, 0] rfl⟩
    · refine lv_bipush (v := -3) hx hb dX5_begin_20 (by decide) ?_
      exact w_iret (v := -3) hF hr hlocks hB (⟨by first | (simp [mbegin, hj_6, c_8]; done) | (simp [mbegin, hj_6, c_8]; rfl) | (simp [mbegin, hj_6, c_8] <;> omega), by first | (simp [mbegin, hj_6, c_8]; done) | (simp [mbegin, hj_6, c_8]; rfl) | (simp [mbegin, hj_6, c_8] <;> omega)⟩) dX5_begin_22
  · have hj_16 := Option.isSome_eq_false_iff.mp c_4
    rw [Option.isNone_iff_eq_none] at hj_16
    refine lv_iconst (v := -1) hx hb dX5_begin_8 (by decide) ?_
    exact w_iret (v := -1) hF hr hlocks hB (⟨by first | (simp [mbegin, hj_16]; done) | (simp [mbegin, hj_16]; rfl) | (simp [mbegin, hj_16] <;> omega), by first | (simp [mbegin, hj_16]; done) | (simp [mbegin, hj_16]; rfl) | (simp [mbegin, hj_16] <;> omega)⟩) dX5_begin_9
set_option maxHeartbeats 4000000 in
set_option maxRecDepth 100000 in
theorem c_X5_sites (l : Launch) (env : Ev) (s0 : Nat) (X : va_W) (u : St) (a0 : Nat) (_xa0 : Nat) (ha0 : At u 20 (0) a0) (v1 : Int32) (v2 : Int32) (hM : MI u) (hV : MV u.2.2) (hNm : Nb u.2.2) : Met l yX5_sites [Cond.code yX5_sites cX5_sites 3 (some .int)] { frames := 1, cells := 0, slots := 0, locals := 25 } (va_Pc [.ref (a0), .int (v1), .int (v2)] (Pr env s0 X u)) (va_Qi (fun r u' => u' = wM u ((msites u.2.2 v1 v2).2) ∧ r = (msites u.2.2 v1 v2).1) (Po env s0 X) (fun q => s0 ≤ q)) 0 0 (fun q => s0 ≤ q) := by
  refine Met.ofW (cc := cX5_sites) (maxL := 3) (ret := (some .int)) (by decide) rfl ?_
  intro p e s m args below meth c s₁ B hml hv
  obtain ⟨rfl, hv⟩ := hv
  have hx := B.exec
  have hb := B.bytes
  have hr := B.returns
  have hts : ∀ ww ∈ TT, ww.before #[.ref (a0), .int (v1), .int (v2)] s = true := fun ww hw => hv.2.1 ww hw _
  have hown : s.vm.findClass RX5 = some m.cls := findClass_of_methodNamed B.named
  have hlocks := B.notSynchronized
  have hF : CallFix p m c cX5_sites 3 s #[.ref (a0), .int (v1), .int (v2)] TT RX5 := ⟨hx, hb, hml, hown, hts⟩
  have hB := Bd.entry hv
  have hl := lv_entry ([.ref (a0), .int (v1), .int (v2)]) (n := 3) (Nat.le_of_ble_eq_true rfl)
  rw [lg_entry_eq]
  generalize (lg_sl ([.ref (a0), .int (v1), .int (v2)]) ++ List.replicate (3 - (lg_sl ([.ref (a0), .int (v1), .int (v2)])).length) Slot.unset).toArray = ls at hl ⊢
  have hl : lv_has ls 3 [(0, .ref (a0)), (1, .int (v1)), (2, .int (v2))] := hl
  have hn1 := hV.nth
  have hn2 := hV.ntx
  have hn3 := hV.nst
  have hn4 := hV.nms
  refine lv_iload_n hx hb dX5_sites_0 rfl (lv_at hl 1 rfl) ?_
  refine lv_i2l hx hb dX5_sites_1 rfl ?_
  refine lv_ldc2 (v := 2) hx hb hown (hts _ tw_3_181) dX5_sites_2 ?_
  refine lv_ldc2 (v := 4) hx hb hown (hts _ tw_3_182) dX5_sites_5 ?_
  refine w_ci (r_S (As := [.long ((v1).toInt64), .long (2), .long (4)]) (rest := []) hF hB (c_X5_in l env s0 X u ((v1).toInt64) (2) (4) ) cs_X5_in tw_3_183 ⟨rfl, rfl, by decide, by decide⟩ rfl hl.1 rfl (lv_room (by decide)) dX5_sites_8 ⟨Nat.le_of_ble_eq_true rfl, Nat.le_of_ble_eq_true rfl⟩) hB (fun r_1 u_3 H locs hq_2 hB => ?_)
  obtain ⟨rfl, rfl⟩ := hq_2
  refine w_ifeq_b (tgt := 27) hx hb dX5_sites_11 (by decide) (fun c_4 => ?_) (fun c_4 => ?_)
  · refine lv_iconst (v := -1) hx hb dX5_sites_27 (by decide) ?_
    exact w_iret (v := -1) hF hr hlocks hB (⟨by unfold msites; split; rfl; rename_i a h; rw [if_pos (in_24f c_4 a h)]; rfl, by unfold msites; split; rfl; rename_i a h; rw [if_pos (in_24f c_4 a h)]⟩) dX5_sites_28
  · obtain ⟨a_5, h_6, h_7, rfl⟩ := in_24 c_4
    have hj_8 := ix_nI (j := a_5) (n := 5) (by decide) h_6
    have hj_9 : ¬ a_5 < 2 := by omega
    refine lv_iload_n hx hb dX5_sites_14 rfl (lv_at hl 2 rfl) ?_
    refine lv_i2l hx hb dX5_sites_15 rfl ?_
    refine lv_lconst (v := 0) hx hb dX5_sites_16 (by decide) ?_
    refine lv_iload_n hx hb dX5_sites_17 rfl (lv_at hl 1 rfl) ?_
    refine lv_iconst (v := nI 1) hx hb dX5_sites_18 (by decide) ?_
    refine lv_isub hx hb dX5_sites_19 ?_
    refine lv_i2l hx hb dX5_sites_20 rfl ?_
    refine w_ci (r_S (As := [.long ((v2).toInt64), .long (0), .long (((nI a_5) - (nI 1)).toInt64)]) (rest := []) hF hB (c_X5_in l env s0 X u ((v2).toInt64) (0) (((nI a_5) - (nI 1)).toInt64) ) cs_X5_in tw_3_183 ⟨rfl, rfl, by decide, by decide⟩ rfl hl.1 rfl (lv_room (by decide)) dX5_sites_21 ⟨Nat.le_of_ble_eq_true rfl, Nat.le_of_ble_eq_true rfl⟩) hB (fun r_10 u_12 H locs hq_11 hB => ?_)
    obtain ⟨rfl, rfl⟩ := hq_11
    refine w_ifne_b (tgt := 29) hx hb dX5_sites_24 (by decide) (fun c_13 => ?_) (fun c_13 => ?_)
    · have hi_14 := (in_ix v2 (n := a_5) (by omega)).symm.trans c_13
      obtain ⟨j_15, hj_16⟩ := Option.isSome_iff_exists.mp hi_14
      obtain ⟨hjl_17, rfl⟩ := ix_some (by omega) hj_16
      refine lv_aload_n hx hb dX5_sites_29 rfl (lv_at hl 0 rfl) ?_
      refine w_get (v := .int (nI (gN u.2.2 52 (0) (0)))) (fk := 2) hF hB ha0 (cn_20 env u (0)) rfl in_X5 (by decide) tw_3_97 rfl rfl dX5_sites_30 ?_
      refine w_ifgt_n (tgt := 43) (by have := hNm 52 (0) (0); omega) hx hb dX5_sites_33 (by decide) (fun c_18 => ?_) (fun c_18 => ?_)
      · refine lv_bipush (v := -2) hx hb dX5_sites_43 (by decide) ?_
        exact w_iret (v := -2) hF hr hlocks hB (⟨by first | (simp [msites, hj_8, hj_9, hj_16, c_18]; done) | (simp [msites, hj_8, hj_9, hj_16, c_18]; rfl) | (simp [msites, hj_8, hj_9, hj_16, c_18] <;> omega), by first | (simp [msites, hj_8, hj_9, hj_16, c_18]; done) | (simp [msites, hj_8, hj_9, hj_16, c_18]; rfl) | (simp [msites, hj_8, hj_9, hj_16, c_18] <;> omega)⟩) dX5_sites_45
      · refine lv_aload_n hx hb dX5_sites_36 rfl (lv_at hl 0 rfl) ?_
        refine w_get (v := .int (nI (gN u.2.2 55 (0) (0)))) (fk := 5) hF hB ha0 (cn_20 env u (0)) rfl in_X5 (by decide) tw_3_100 rfl rfl dX5_sites_37 ?_
        refine w_ifle_n (tgt := 46) (by have := hNm 55 (0) (0); omega) hx hb dX5_sites_40 (by decide) (fun c_19 => ?_) (fun c_19 => ?_)
        · refine lv_aload_n hx hb dX5_sites_46 rfl (lv_at hl 0 rfl) ?_
          refine lv_iload_n hx hb dX5_sites_47 rfl (lv_at hl 1 rfl) ?_
          refine w_put (fk := 0) (v := .int (nI (a_5))) (ty := .int) hF hB ha0 (wM u (uN u.2.2 50 (0) (0) (a_5))) (cn_20 env u (0)) rfl in_X5 tyX5 tyX5_ok nmX5 (by decide) tw_3_95 rfl rfl (by decide +kernel) rfl rfl (Nat.le_of_ble_eq_true rfl) rfl rfl (cu_N50 env u (0) (a_5)) dX5_sites_48 (fun H locs hB => ?_)
          refine lv_aload_n hx hb dX5_sites_51 rfl (lv_at hl 0 rfl) ?_
          refine lv_iload_n hx hb dX5_sites_52 rfl (lv_at hl 2 rfl) ?_
          refine w_put (fk := 1) (v := .int (nI (j_15))) (ty := .int) hF hB ha0 (wM u (uN (uN u.2.2 50 (0) (0) (a_5)) 51 (0) (0) (j_15))) (cn_20 env (wM u (uN u.2.2 50 (0) (0) (a_5))) (0)) rfl in_X5 tyX5 tyX5_ok nmX5 (by decide) tw_3_96 rfl rfl (by decide +kernel) rfl rfl (Nat.le_of_ble_eq_true rfl) rfl rfl (cu_N51 env (wM u (uN u.2.2 50 (0) (0) (a_5))) (0) (j_15)) dX5_sites_53 (fun H locs hB => ?_)
          refine lv_iconst (v := nI 1) hx hb dX5_sites_56 (by decide) ?_
          exact w_iret (v := nI 1) hF hr hlocks hB (⟨by first | (simp [msites, hj_8, hj_9, hj_16, c_18, c_19]; done) | (simp [msites, hj_8, hj_9, hj_16, c_18, c_19]; rfl) | (simp [msites, hj_8, hj_9, hj_16, c_18, c_19] <;> omega), by first | (simp [msites, hj_8, hj_9, hj_16, c_18, c_19]; done) | (simp [msites, hj_8, hj_9, hj_16, c_18, c_19]; rfl) | (simp [msites, hj_8, hj_9, hj_16, c_18, c_19] <;> omega)⟩) dX5_sites_57
        · refine lv_bipush (v := -2) hx hb dX5_sites_43 (by decide) ?_
          exact w_iret (v := -2) hF hr hlocks hB (⟨by first | (simp [msites, hj_8, hj_9, hj_16, c_18, c_19]; done) | (simp [msites, hj_8, hj_9, hj_16, c_18, c_19]; rfl) | (simp [msites, hj_8, hj_9, hj_16, c_18, c_19] <;> omega), by first | (simp [msites, hj_8, hj_9, hj_16, c_18, c_19]; done) | (simp [msites, hj_8, hj_9, hj_16, c_18, c_19]; rfl) | (simp [msites, hj_8, hj_9, hj_16, c_18, c_19] <;> omega)⟩) dX5_sites_45
    · have hi_20 := (in_ix v2 (n := a_5) (by omega)).symm.trans c_13
      have hj_21 := Option.isSome_eq_false_iff.mp hi_20
      rw [Option.isNone_iff_eq_none] at hj_21
      refine lv_iconst (v := -1) hx hb dX5_sites_27 (by decide) ?_
      exact w_iret (v := -1) hF hr hlocks hB (⟨by first | (simp [msites, hj_8, hj_9, hj_21]; done) | (simp [msites, hj_8, hj_9, hj_21]; rfl) | (simp [msites, hj_8, hj_9, hj_21] <;> omega), by first | (simp [msites, hj_8, hj_9, hj_21]; done) | (simp [msites, hj_8, hj_9, hj_21]; rfl) | (simp [msites, hj_8, hj_9, hj_21] <;> omega)⟩) dX5_sites_28

set_option maxHeartbeats 4000000 in
set_option maxRecDepth 100000 in
theorem c_X1_howManyLocked (l : Launch) (env : Ev) (s0 : Nat) (X : va_W) (u : St) (a0 : Nat) (w : Nat) (ha0 : At u 5 (w) a0) (hI : SI env u) (hNb : Nb u.2.1) (hw : w < 4) : Met l yX1_howManyLocked [Cond.code yX1_howManyLocked cX1_howManyLocked 3 (some .int)] { frames := 1, cells := 0, slots := 0, locals := 20 } (va_Pc [.ref (a0)] (Pr env s0 X u)) (va_Qi (fun r u' => u = u' ∧ r = nI (cLkd u.2.1 w)) (Po env s0 X) (fun q => s0 ≤ q)) 0 0 (fun q => s0 ≤ q) := by
  refine Met.ofW (cc := cX1_howManyLocked) (maxL := 3) (ret := (some .int)) (by decide) rfl ?_
  intro p e s m args below meth c s₁ B hml hv
  obtain ⟨rfl, hv⟩ := hv
  have hx := B.exec
  have hb := B.bytes
  have hr := B.returns
  have hts : ∀ ww ∈ TT, ww.before #[.ref (a0)] s = true := fun ww hw => hv.2.1 ww hw _
  have hown : s.vm.findClass RX1 = some m.cls := findClass_of_methodNamed B.named
  have hlocks := B.notSynchronized
  have hF : CallFix p m c cX1_howManyLocked 3 s #[.ref (a0)] TT RX1 := ⟨hx, hb, hml, hown, hts⟩
  have hB := Bd.entry hv
  have hl := lv_entry ([.ref (a0)]) (n := 3) (Nat.le_of_ble_eq_true rfl)
  rw [lg_entry_eq]
  generalize (lg_sl ([.ref (a0)]) ++ List.replicate (3 - (lg_sl ([.ref (a0)])).length) Slot.unset).toArray = ls at hl ⊢
  have hl : lv_has ls 3 [(0, .ref (a0))] := hl
  refine lv_iconst (v := nI 0) hx hb dX1_howManyLocked_0 (by decide) ?_
  refine lv_istore_n (lv' := [(1, .int (nI (0))), (0, .ref (a0))]) hx hb dX1_howManyLocked_1 rfl hl (by decide) rfl (fun ls hl => ?_)
  refine lv_iconst (v := nI 0) hx hb dX1_howManyLocked_2 (by decide) ?_
  refine lv_istore_n (lv' := [(2, .int (nI (0))), (1, .int (nI (0))), (0, .ref (a0))]) hx hb dX1_howManyLocked_3 rfl hl (by decide) rfl (fun ls hl => ?_)
  refine wloopH (σ := Heap × List Loc × Array Slot) (G := fun x => W p l e _ s m _ below meth c x.1 x.2.1 _ _ _ (F0 m 4 x.2.2 [])) (P := fun i_1 x => (True) ∧ Bd env s0 X u s x.1 x.2.1 ∧ lv_has x.2.2 3 [(0, .ref (a0)), (1, .int (nI (cntN (cHoQ u.2.1 w) (i_1)))), (2, .int (nI (i_1)))]) (N := 12) ?_ 0 (_, _, ls) (Nat.zero_le _) ⟨trivial, hB, lv_sub hl [2, 1, 0] rfl⟩
  rintro i_1 ⟨H, locs, ls⟩ hi_2 ⟨hv_3, hB, hl⟩ ih4
  replace hB : Bd env s0 X u s H locs := hB
  replace hl : lv_has ls 3 [(0, .ref (a0)), (1, .int (nI (cntN (cHoQ u.2.1 w) (i_1)))), (2, .int (nI (i_1)))] := hl
  show W p l e _ s m _ below meth c H locs _ _ _ (F0 m 4 ls [])
  refine lv_iload_n hx hb dX1_howManyLocked_4 rfl (lv_at hl 2 rfl) ?_
  refine lv_bipush (v := nI 12) hx hb dX1_howManyLocked_5 (by decide) ?_
  refine w_icge_n (tgt := 38) (by omega) (by decide) hx hb dX1_howManyLocked_7 (by decide) (fun c_4 => ?_) (fun c_4 => ?_)
  · refine lv_iload_n hx hb dX1_howManyLocked_38 rfl (lv_at hl 1 rfl) ?_
    exact w_iret (v := nI (cntN (cHoQ u.2.1 w) (i_1))) hF hr hlocks hB (⟨rfl, by rw [show i_1 = 12 by omega]; rfl⟩) dX1_howManyLocked_39
  · refine lv_iload_n hx hb dX1_howManyLocked_10 rfl (lv_at hl 1 rfl) ?_
    refine lv_aload_n hx hb dX1_howManyLocked_11 rfl (lv_at hl 0 rfl) ?_
    refine w_get (v := .ref (sA u 7 (w))) (fk := 3) hF hB ha0 (cn_5 env u (w)) rfl in_X1 (by decide) tw_1_69 rfl rfl dX1_howManyLocked_12 ?_
    refine lv_iload_n hx hb dX1_howManyLocked_15 rfl (lv_at hl 2 rfl) ?_
    refine w_iald (v := .int (gI u.2.1 7 (w) (i_1))) hF hB ⟨(hI.k7 (by omega)), rfl⟩ (cn_7 env u (w)) (by omega) rfl (by decide) dX1_howManyLocked_16 ?_
    refine lv_bipush (v := -4) hx hb dX1_howManyLocked_17 (by decide) ?_
    refine lv_icmp_eq (tgt := 26) hx hb dX1_howManyLocked_19 (by decide) (fun c_5 => ?_) (fun c_5 => ?_)
    · refine lv_iconst (v := nI 0) hx hb dX1_howManyLocked_26 (by decide) ?_
      refine w_ci (r_SN (As := [.int (nI (0))]) (rest := [.int (nI (cntN (cHoQ u.2.1 w) (i_1)))]) hF hB (c_X4_oneIf l env s0 X u (false) ) cs_X4_oneIf tw_3_84 ⟨rfl, rfl, by decide, by decide⟩ rfl hl.1 rfl (lv_room (Nat.le_of_ble_eq_true rfl)) dX1_howManyLocked_27 ⟨Nat.le_of_ble_eq_true rfl, Nat.le_of_ble_eq_true rfl⟩) hB (fun r_6 u_8 H locs hq_7 hB => ?_)
      obtain ⟨rfl, rfl⟩ := hq_7
      refine w_iadd_nb hx hb dX1_howManyLocked_30 ?_
      refine lv_istore_n (lv' := [(1, .int (nI ((cntN (cHoQ u.2.1 w) (i_1)) + (if false = true then 1 else 0)))), (0, .ref (a0)), (2, .int (nI (i_1)))]) hx hb dX1_howManyLocked_31 rfl hl (by decide) rfl (fun ls hl => ?_)
      refine lv_iinc (v := nI (i_1 + 1)) (lv' := [(2, .int (nI (i_1 + 1))), (1, .int (nI ((cntN (cHoQ u.2.1 w) (i_1)) + (if false = true then 1 else 0)))), (0, .ref (a0))]) hx hb dX1_howManyLocked_32 hl (k := 2) rfl (nI_add _ _) (by decide) rfl (fun ls hl => ?_)
      refine lv_goto (tgt := 4) hx hb dX1_howManyLocked_35 (by decide) ?_
      have ea_9 : cntN (cHoQ u.2.1 w) (i_1 + 1) = (cntN (cHoQ u.2.1 w) (i_1)) + (if false = true then 1 else 0) := by first | (simp [allN_s, anyN_s, cntN_s, sumL_s, Int64.add_assoc, cHoQ, c_4, c_5] <;> omega) | grind [allN_s, anyN_s, cntN_s, sumL_s, Int64.add_assoc, cHoQ]
      exact ih4 (H, locs, ls) (by omega) ⟨trivial, hB, by show lv_has ls 3 [(0, .ref (a0)), (1, .int (nI (cntN (cHoQ u.2.1 w) (i_1 + 1)))), (2, .int (nI (i_1 + 1)))]; rw [ea_9]; exact lv_sub hl [2, 1, 0] rfl⟩
    · refine lv_iconst (v := nI 1) hx hb dX1_howManyLocked_22 (by decide) ?_
      refine lv_goto (tgt := 27) hx hb dX1_howManyLocked_23 (by decide) ?_
      refine w_ci (r_SN (As := [.int (nI (1))]) (rest := [.int (nI (cntN (cHoQ u.2.1 w) (i_1)))]) hF hB (c_X4_oneIf l env s0 X u (true) ) cs_X4_oneIf tw_3_84 ⟨rfl, rfl, by decide, by decide⟩ rfl hl.1 rfl (lv_room (Nat.le_of_ble_eq_true rfl)) dX1_howManyLocked_27 ⟨Nat.le_of_ble_eq_true rfl, Nat.le_of_ble_eq_true rfl⟩) hB (fun r_10 u_12 H locs hq_11 hB => ?_)
      obtain ⟨rfl, rfl⟩ := hq_11
      refine w_iadd_nb hx hb dX1_howManyLocked_30 ?_
      refine lv_istore_n (lv' := [(1, .int (nI ((cntN (cHoQ u.2.1 w) (i_1)) + (if true = true then 1 else 0)))), (0, .ref (a0)), (2, .int (nI (i_1)))]) hx hb dX1_howManyLocked_31 rfl hl (by decide) rfl (fun ls hl => ?_)
      refine lv_iinc (v := nI (i_1 + 1)) (lv' := [(2, .int (nI (i_1 + 1))), (1, .int (nI ((cntN (cHoQ u.2.1 w) (i_1)) + (if true = true then 1 else 0)))), (0, .ref (a0))]) hx hb dX1_howManyLocked_32 hl (k := 2) rfl (nI_add _ _) (by decide) rfl (fun ls hl => ?_)
      refine lv_goto (tgt := 4) hx hb dX1_howManyLocked_35 (by decide) ?_
      have ea_13 : cntN (cHoQ u.2.1 w) (i_1 + 1) = (cntN (cHoQ u.2.1 w) (i_1)) + (if true = true then 1 else 0) := by first | (simp [allN_s, anyN_s, cntN_s, sumL_s, Int64.add_assoc, cHoQ, c_4, c_5] <;> omega) | grind [allN_s, anyN_s, cntN_s, sumL_s, Int64.add_assoc, cHoQ]
      exact ih4 (H, locs, ls) (by omega) ⟨trivial, hB, by show lv_has ls 3 [(0, .ref (a0)), (1, .int (nI (cntN (cHoQ u.2.1 w) (i_1 + 1)))), (2, .int (nI (i_1 + 1)))]; rw [ea_13]; exact lv_sub hl [2, 1, 0] rfl⟩
set_option maxHeartbeats 4000000 in
set_option maxRecDepth 100000 in
theorem c_X4_howManyAre (l : Launch) (env : Ev) (s0 : Nat) (X : va_W) (u : St) (a0 : Nat) (_xa0 : Nat) (ha0 : At u 0 (0) a0) (xs : Nat) (hI : SI env u) (hNb : Nb u.2.1) (hx4 : xs < 4) : Met l yX4_howManyAre [Cond.code yX4_howManyAre cX4_howManyAre 4 (some .int)] { frames := 3, cells := 0, slots := 0, locals := 64 } (va_Pc [.ref (a0), .int (nI (xs))] (Pr env s0 X u)) (va_Qi (fun r u' => u = u' ∧ r = nI (cntN (cStQ u.2.1 xs) (gN u.2.1 3 1 0))) (Po env s0 X) (fun q => s0 ≤ q)) 0 0 (fun q => s0 ≤ q) := by
  refine Met.ofW (cc := cX4_howManyAre) (maxL := 4) (ret := (some .int)) (by decide) rfl ?_
  intro p e s m args below meth c s₁ B hml hv
  obtain ⟨rfl, hv⟩ := hv
  have hx := B.exec
  have hb := B.bytes
  have hr := B.returns
  have hts : ∀ ww ∈ TT, ww.before #[.ref (a0), .int (nI (xs))] s = true := fun ww hw => hv.2.1 ww hw _
  have hown : s.vm.findClass RX4 = some m.cls := findClass_of_methodNamed B.named
  have hlocks := B.notSynchronized
  have hF : CallFix p m c cX4_howManyAre 4 s #[.ref (a0), .int (nI (xs))] TT RX4 := ⟨hx, hb, hml, hown, hts⟩
  have hB := Bd.entry hv
  have hl := lv_entry ([.ref (a0), .int (nI (xs))]) (n := 4) (Nat.le_of_ble_eq_true rfl)
  rw [lg_entry_eq]
  generalize (lg_sl ([.ref (a0), .int (nI (xs))]) ++ List.replicate (4 - (lg_sl ([.ref (a0), .int (nI (xs))])).length) Slot.unset).toArray = ls at hl ⊢
  have hl : lv_has ls 4 [(0, .ref (a0)), (1, .int (nI (xs)))] := hl
  have hn4 := hI.nst
  refine lv_iconst (v := nI 0) hx hb dX4_howManyAre_0 (by decide) ?_
  refine lv_istore_n (lv' := [(2, .int (nI (0))), (0, .ref (a0)), (1, .int (nI (xs)))]) hx hb dX4_howManyAre_1 rfl hl (by decide) rfl (fun ls hl => ?_)
  refine lv_iconst (v := nI 0) hx hb dX4_howManyAre_2 (by decide) ?_
  refine lv_istore_n (lv' := [(3, .int (nI (0))), (2, .int (nI (0))), (0, .ref (a0)), (1, .int (nI (xs)))]) hx hb dX4_howManyAre_3 rfl hl (by decide) rfl (fun ls hl => ?_)
  refine wloopH (σ := Heap × List Loc × Array Slot) (G := fun x => W p l e _ s m _ below meth c x.1 x.2.1 _ _ _ (F0 m 4 x.2.2 [])) (P := fun i_1 x => (True) ∧ Bd env s0 X u s x.1 x.2.1 ∧ lv_has x.2.2 4 [(0, .ref (a0)), (1, .int (nI (xs))), (2, .int (nI (cntN (cStQ u.2.1 xs) (i_1)))), (3, .int (nI (i_1)))]) (N := gN u.2.1 3 1 0) ?_ 0 (_, _, ls) (Nat.zero_le _) ⟨trivial, hB, lv_sub hl [2, 3, 1, 0] rfl⟩
  rintro i_1 ⟨H, locs, ls⟩ hi_2 ⟨hv_3, hB, hl⟩ ih4
  replace hB : Bd env s0 X u s H locs := hB
  replace hl : lv_has ls 4 [(0, .ref (a0)), (1, .int (nI (xs))), (2, .int (nI (cntN (cStQ u.2.1 xs) (i_1)))), (3, .int (nI (i_1)))] := hl
  show W p l e _ s m _ below meth c H locs _ _ _ (F0 m 4 ls [])
  have := hNb 3 1 0
  refine lv_iload_n hx hb dX4_howManyAre_4 rfl (lv_at hl 3 rfl) ?_
  refine lv_aload_n hx hb dX4_howManyAre_5 rfl (lv_at hl 0 rfl) ?_
  refine w_get (v := .ref (sA u 2 (1))) (fk := 4) hF hB ha0 (cn_0 env u (0)) rfl in_X4 (by decide) tw_1_85 rfl rfl dX4_howManyAre_6 ?_
  refine w_ci (r_V (As := []) (rest := [.int (nI (i_1))]) hF hB (c_Jx4a65c_size_8abf5 l env s0 X u (sA u 2 (1)) (1) (⟨(hI.k2 (by decide)), rfl⟩) ) cv_Jx4a65c_size_8abf5 tw_1_116 ⟨rfl, rfl, by decide, by decide⟩ (hB.recv ⟨(hI.k2 (by decide)), rfl⟩ (cn_2 env u (1)) rfl) rfl hl.1 rfl (lv_room (Nat.le_of_ble_eq_true rfl)) dX4_howManyAre_9 ⟨Nat.le_of_ble_eq_true rfl, Nat.le_of_ble_eq_true rfl⟩) hB (fun r_4 u_6 H locs hq_5 hB => ?_)
  obtain ⟨rfl, rfl⟩ := hq_5
  refine w_icge_n (tgt := 50) (by omega) (by have := hNb 3 (1) 0; omega) hx hb dX4_howManyAre_12 (by decide) (fun c_7 => ?_) (fun c_7 => ?_)
  · refine lv_iload_n hx hb dX4_howManyAre_50 rfl (lv_at hl 2 rfl) ?_
    exact w_iret (v := nI (cntN (cStQ u.2.1 xs) (i_1))) hF hr hlocks hB (⟨rfl, by rw [show i_1 = gN u.2.1 3 1 0 by omega]⟩) dX4_howManyAre_51
  · refine lv_iload_n hx hb dX4_howManyAre_15 rfl (lv_at hl 2 rfl) ?_
    refine lv_aload_n hx hb dX4_howManyAre_16 rfl (lv_at hl 0 rfl) ?_
    refine w_get (v := .ref (sA u 2 (1))) (fk := 4) hF hB ha0 (cn_0 env u (0)) rfl in_X4 (by decide) tw_1_85 rfl rfl dX4_howManyAre_17 ?_
    refine lv_iload_n hx hb dX4_howManyAre_20 rfl (lv_at hl 3 rfl) ?_
    refine w_cq (r_V (As := [.int (nI (i_1))]) (rest := [.int (nI (cntN (cStQ u.2.1 xs) (i_1)))]) hF hB (c_Jx4a65c_get_915e3 l env s0 X u (sA u 2 (1)) (1) (⟨(hI.k2 (by decide)), rfl⟩) (i_1) hNb (hI.get (by decide) c_7).1 c_7 (hI.get (by decide) c_7).2.1 (hI.get (by decide) c_7).2.2) cv_Jx4a65c_get_915e3 tw_2_42 ⟨rfl, rfl, by decide, by decide⟩ (hB.recv ⟨(hI.k2 (by decide)), rfl⟩ (cn_2 env u (1)) rfl) rfl hl.1 rfl (lv_room (Nat.le_of_ble_eq_true rfl)) dX4_howManyAre_21 ⟨Nat.le_of_ble_eq_true rfl, Nat.le_of_ble_eq_true rfl⟩) hB (fun r_8 u_10 H locs hq_9 hB => ?_)
    obtain ⟨rfl, rfl⟩ := hq_9
    rw [hI.e1 c_7]
    show W p l e _ s m _ below meth c H locs _ _ _ (F0 m _ ls [.ref (sA u 8 (i_1)), .int (nI (cntN (cStQ u.2.1 xs) (i_1)))])
    refine w_cast hF hB tw_1_199 tw_4_104 (hB.recv ⟨(hI.k8 c_7), rfl⟩ (cn_8 env u (i_1)) rfl) dX4_howManyAre_24 ?_
    refine w_getN (v := .int (nI (gN u.2.1 16 (i_1) (0)))) (fk := 9) hF hB ⟨(hI.k8 c_7), rfl⟩ (cn_8 env u (i_1)) rfl in_X3 (by decide) tw_1_236 rfl rfl dX4_howManyAre_27 ?_
    refine lv_iload_n hx hb dX4_howManyAre_30 rfl (lv_at hl 1 rfl) ?_
    refine w_icne_n (tgt := 38) (by have := hNb 16 (i_1) (0); omega) (by omega) hx hb dX4_howManyAre_31 (by decide) (fun c_11 => ?_) (fun c_11 => ?_)
    · refine lv_iconst (v := nI 0) hx hb dX4_howManyAre_38 (by decide) ?_
      refine w_ci (r_S (As := [.int (nI (0))]) (rest := [.int (nI (cntN (cStQ u.2.1 xs) (i_1)))]) hF hB (c_X4_oneIf l env s0 X u (false) ) cs_X4_oneIf tw_3_19 ⟨rfl, rfl, by decide, by decide⟩ rfl hl.1 rfl (lv_room (Nat.le_of_ble_eq_true rfl)) dX4_howManyAre_39 ⟨Nat.le_of_ble_eq_true rfl, Nat.le_of_ble_eq_true rfl⟩) hB (fun r_12 u_14 H locs hq_13 hB => ?_)
      obtain ⟨rfl, rfl⟩ := hq_13
      refine w_iadd_nb hx hb dX4_howManyAre_42 ?_
      refine lv_istore_n (lv' := [(2, .int (nI ((cntN (cStQ u.2.1 xs) (i_1)) + (if false = true then 1 else 0)))), (0, .ref (a0)), (1, .int (nI (xs))), (3, .int (nI (i_1)))]) hx hb dX4_howManyAre_43 rfl hl (by decide) rfl (fun ls hl => ?_)
      refine lv_iinc (v := nI (i_1 + 1)) (lv' := [(3, .int (nI (i_1 + 1))), (2, .int (nI ((cntN (cStQ u.2.1 xs) (i_1)) + (if false = true then 1 else 0)))), (0, .ref (a0)), (1, .int (nI (xs)))]) hx hb dX4_howManyAre_44 hl (k := 3) rfl (nI_add _ _) (by decide) rfl (fun ls hl => ?_)
      refine lv_goto (tgt := 4) hx hb dX4_howManyAre_47 (by decide) ?_
      have ea_15 : cntN (cStQ u.2.1 xs) (i_1 + 1) = (cntN (cStQ u.2.1 xs) (i_1)) + (if false = true then 1 else 0) := by first | (simp [allN_s, anyN_s, cntN_s, sumL_s, Int64.add_assoc, cStQ, c_7, c_11] <;> omega) | grind [allN_s, anyN_s, cntN_s, sumL_s, Int64.add_assoc, cStQ]
      exact ih4 (H, locs, ls) (by omega) ⟨trivial, hB, by show lv_has ls 4 [(0, .ref (a0)), (1, .int (nI (xs))), (2, .int (nI (cntN (cStQ u.2.1 xs) (i_1 + 1)))), (3, .int (nI (i_1 + 1)))]; rw [ea_15]; exact lv_sub hl [2, 3, 1, 0] rfl⟩
    · refine lv_iconst (v := nI 1) hx hb dX4_howManyAre_34 (by decide) ?_
      refine lv_goto (tgt := 39) hx hb dX4_howManyAre_35 (by decide) ?_
      refine w_ci (r_S (As := [.int (nI (1))]) (rest := [.int (nI (cntN (cStQ u.2.1 xs) (i_1)))]) hF hB (c_X4_oneIf l env s0 X u (true) ) cs_X4_oneIf tw_3_19 ⟨rfl, rfl, by decide, by decide⟩ rfl hl.1 rfl (lv_room (Nat.le_of_ble_eq_true rfl)) dX4_howManyAre_39 ⟨Nat.le_of_ble_eq_true rfl, Nat.le_of_ble_eq_true rfl⟩) hB (fun r_16 u_18 H locs hq_17 hB => ?_)
      obtain ⟨rfl, rfl⟩ := hq_17
      refine w_iadd_nb hx hb dX4_howManyAre_42 ?_
      refine lv_istore_n (lv' := [(2, .int (nI ((cntN (cStQ u.2.1 xs) (i_1)) + (if true = true then 1 else 0)))), (0, .ref (a0)), (1, .int (nI (xs))), (3, .int (nI (i_1)))]) hx hb dX4_howManyAre_43 rfl hl (by decide) rfl (fun ls hl => ?_)
      refine lv_iinc (v := nI (i_1 + 1)) (lv' := [(3, .int (nI (i_1 + 1))), (2, .int (nI ((cntN (cStQ u.2.1 xs) (i_1)) + (if true = true then 1 else 0)))), (0, .ref (a0)), (1, .int (nI (xs)))]) hx hb dX4_howManyAre_44 hl (k := 3) rfl (nI_add _ _) (by decide) rfl (fun ls hl => ?_)
      refine lv_goto (tgt := 4) hx hb dX4_howManyAre_47 (by decide) ?_
      have ea_19 : cntN (cStQ u.2.1 xs) (i_1 + 1) = (cntN (cStQ u.2.1 xs) (i_1)) + (if true = true then 1 else 0) := by first | (simp [allN_s, anyN_s, cntN_s, sumL_s, Int64.add_assoc, cStQ, c_7, c_11] <;> omega) | grind [allN_s, anyN_s, cntN_s, sumL_s, Int64.add_assoc, cStQ]
      exact ih4 (H, locs, ls) (by omega) ⟨trivial, hB, by show lv_has ls 4 [(0, .ref (a0)), (1, .int (nI (xs))), (2, .int (nI (cntN (cStQ u.2.1 xs) (i_1 + 1)))), (3, .int (nI (i_1 + 1)))]; rw [ea_19]; exact lv_sub hl [2, 3, 1, 0] rfl⟩
set_option maxHeartbeats 4000000 in
set_option maxRecDepth 100000 in
theorem c_X4_howManySafe (l : Launch) (env : Ev) (s0 : Nat) (X : va_W) (u : St) (a0 : Nat) (_xa0 : Nat) (ha0 : At u 0 (0) a0) (hI : SI env u) (hNb : Nb u.2.1) : Met l yX4_howManySafe [Cond.code yX4_howManySafe cX4_howManySafe 3 (some .int)] { frames := 3, cells := 0, slots := 0, locals := 64 } (va_Pc [.ref (a0)] (Pr env s0 X u)) (va_Qi (fun r u' => u = u' ∧ r = nI (cntN (cSafe u.2.1) (gN u.2.1 3 1 0))) (Po env s0 X) (fun q => s0 ≤ q)) 0 0 (fun q => s0 ≤ q) := by
  refine Met.ofW (cc := cX4_howManySafe) (maxL := 3) (ret := (some .int)) (by decide) rfl ?_
  intro p e s m args below meth c s₁ B hml hv
  obtain ⟨rfl, hv⟩ := hv
  have hx := B.exec
  have hb := B.bytes
  have hr := B.returns
  have hts : ∀ ww ∈ TT, ww.before #[.ref (a0)] s = true := fun ww hw => hv.2.1 ww hw _
  have hown : s.vm.findClass RX4 = some m.cls := findClass_of_methodNamed B.named
  have hlocks := B.notSynchronized
  have hF : CallFix p m c cX4_howManySafe 3 s #[.ref (a0)] TT RX4 := ⟨hx, hb, hml, hown, hts⟩
  have hB := Bd.entry hv
  have hl := lv_entry ([.ref (a0)]) (n := 3) (Nat.le_of_ble_eq_true rfl)
  rw [lg_entry_eq]
  generalize (lg_sl ([.ref (a0)]) ++ List.replicate (3 - (lg_sl ([.ref (a0)])).length) Slot.unset).toArray = ls at hl ⊢
  have hl : lv_has ls 3 [(0, .ref (a0))] := hl
  have hn4 := hI.nst
  refine lv_iconst (v := nI 0) hx hb dX4_howManySafe_0 (by decide) ?_
  refine lv_istore_n (lv' := [(1, .int (nI (0))), (0, .ref (a0))]) hx hb dX4_howManySafe_1 rfl hl (by decide) rfl (fun ls hl => ?_)
  refine lv_iconst (v := nI 0) hx hb dX4_howManySafe_2 (by decide) ?_
  refine lv_istore_n (lv' := [(2, .int (nI (0))), (1, .int (nI (0))), (0, .ref (a0))]) hx hb dX4_howManySafe_3 rfl hl (by decide) rfl (fun ls hl => ?_)
  refine wloopH (σ := Heap × List Loc × Array Slot) (G := fun x => W p l e _ s m _ below meth c x.1 x.2.1 _ _ _ (F0 m 4 x.2.2 [])) (P := fun i_1 x => (True) ∧ Bd env s0 X u s x.1 x.2.1 ∧ lv_has x.2.2 3 [(0, .ref (a0)), (1, .int (nI (cntN (cSafe u.2.1) (i_1)))), (2, .int (nI (i_1)))]) (N := gN u.2.1 3 1 0) ?_ 0 (_, _, ls) (Nat.zero_le _) ⟨trivial, hB, lv_sub hl [2, 1, 0] rfl⟩
  rintro i_1 ⟨H, locs, ls⟩ hi_2 ⟨hv_3, hB, hl⟩ ih4
  replace hB : Bd env s0 X u s H locs := hB
  replace hl : lv_has ls 3 [(0, .ref (a0)), (1, .int (nI (cntN (cSafe u.2.1) (i_1)))), (2, .int (nI (i_1)))] := hl
  show W p l e _ s m _ below meth c H locs _ _ _ (F0 m 4 ls [])
  have := hNb 3 1 0
  refine lv_iload_n hx hb dX4_howManySafe_4 rfl (lv_at hl 2 rfl) ?_
  refine lv_aload_n hx hb dX4_howManySafe_5 rfl (lv_at hl 0 rfl) ?_
  refine w_get (v := .ref (sA u 2 (1))) (fk := 4) hF hB ha0 (cn_0 env u (0)) rfl in_X4 (by decide) tw_1_85 rfl rfl dX4_howManySafe_6 ?_
  refine w_ci (r_V (As := []) (rest := [.int (nI (i_1))]) hF hB (c_Jx4a65c_size_8abf5 l env s0 X u (sA u 2 (1)) (1) (⟨(hI.k2 (by decide)), rfl⟩) ) cv_Jx4a65c_size_8abf5 tw_1_116 ⟨rfl, rfl, by decide, by decide⟩ (hB.recv ⟨(hI.k2 (by decide)), rfl⟩ (cn_2 env u (1)) rfl) rfl hl.1 rfl (lv_room (Nat.le_of_ble_eq_true rfl)) dX4_howManySafe_9 ⟨Nat.le_of_ble_eq_true rfl, Nat.le_of_ble_eq_true rfl⟩) hB (fun r_4 u_6 H locs hq_5 hB => ?_)
  obtain ⟨rfl, rfl⟩ := hq_5
  refine w_icge_n (tgt := 42) (by omega) (by have := hNb 3 (1) 0; omega) hx hb dX4_howManySafe_12 (by decide) (fun c_7 => ?_) (fun c_7 => ?_)
  · refine lv_iload_n hx hb dX4_howManySafe_42 rfl (lv_at hl 1 rfl) ?_
    exact w_iret (v := nI (cntN (cSafe u.2.1) (i_1))) hF hr hlocks hB (⟨rfl, by rw [show i_1 = gN u.2.1 3 1 0 by omega]⟩) dX4_howManySafe_43
  · refine lv_iload_n hx hb dX4_howManySafe_15 rfl (lv_at hl 1 rfl) ?_
    refine lv_aload_n hx hb dX4_howManySafe_16 rfl (lv_at hl 0 rfl) ?_
    refine lv_aload_n hx hb dX4_howManySafe_17 rfl (lv_at hl 0 rfl) ?_
    refine w_get (v := .ref (sA u 2 (1))) (fk := 4) hF hB ha0 (cn_0 env u (0)) rfl in_X4 (by decide) tw_1_85 rfl rfl dX4_howManySafe_18 ?_
    refine lv_iload_n hx hb dX4_howManySafe_21 rfl (lv_at hl 2 rfl) ?_
    refine w_cq (r_V (As := [.int (nI (i_1))]) (rest := [.ref (a0), .int (nI (cntN (cSafe u.2.1) (i_1)))]) hF hB (c_Jx4a65c_get_915e3 l env s0 X u (sA u 2 (1)) (1) (⟨(hI.k2 (by decide)), rfl⟩) (i_1) hNb (hI.get (by decide) c_7).1 c_7 (hI.get (by decide) c_7).2.1 (hI.get (by decide) c_7).2.2) cv_Jx4a65c_get_915e3 tw_2_42 ⟨rfl, rfl, by decide, by decide⟩ (hB.recv ⟨(hI.k2 (by decide)), rfl⟩ (cn_2 env u (1)) rfl) rfl hl.1 rfl (lv_room (Nat.le_of_ble_eq_true rfl)) dX4_howManySafe_22 ⟨Nat.le_of_ble_eq_true rfl, Nat.le_of_ble_eq_true rfl⟩) hB (fun r_8 u_10 H locs hq_9 hB => ?_)
    obtain ⟨rfl, rfl⟩ := hq_9
    rw [hI.e1 c_7]
    show W p l e _ s m _ below meth c H locs _ _ _ (F0 m _ ls [.ref (sA u 8 (i_1)), .ref (a0), .int (nI (cntN (cSafe u.2.1) (i_1)))])
    refine w_cast hF hB tw_1_199 tw_4_104 (hB.recv ⟨(hI.k8 c_7), rfl⟩ (cn_8 env u (i_1)) rfl) dX4_howManySafe_25 ?_
    refine w_ci (r_V (As := [.ref (sA u 8 (i_1))]) (rest := [.int (nI (cntN (cSafe u.2.1) (i_1)))]) hF hB (c_X4_isSafe l env s0 X u (a0) (0) (ha0) (sA u 8 (i_1)) (i_1) (⟨(hI.k8 c_7), rfl⟩) hI hNb) cv_X4_isSafe tw_3_26 ⟨rfl, rfl, by decide, by decide⟩ (hB.recv ha0 (cn_0 env u (0)) rfl) rfl hl.1 rfl (lv_room (Nat.le_of_ble_eq_true rfl)) dX4_howManySafe_28 ⟨Nat.le_of_ble_eq_true rfl, Nat.le_of_ble_eq_true rfl⟩) hB (fun r_11 u_13 H locs hq_12 hB => ?_)
    obtain ⟨rfl, rfl⟩ := hq_12
    refine w_ci (r_S (As := [.int (b2i (cSafe u.2.1 (i_1)))]) (rest := [.int (nI (cntN (cSafe u.2.1) (i_1)))]) hF hB (c_X4_oneIf l env s0 X u (cSafe u.2.1 (i_1)) ) cs_X4_oneIf tw_3_19 ⟨rfl, rfl, by decide, by decide⟩ rfl hl.1 rfl (lv_room (Nat.le_of_ble_eq_true rfl)) dX4_howManySafe_31 ⟨Nat.le_of_ble_eq_true rfl, Nat.le_of_ble_eq_true rfl⟩) hB (fun r_14 u_16 H locs hq_15 hB => ?_)
    obtain ⟨rfl, rfl⟩ := hq_15
    refine w_iadd_nb hx hb dX4_howManySafe_34 ?_
    refine lv_istore_n (lv' := [(1, .int (nI ((cntN (cSafe u.2.1) (i_1)) + (if cSafe u.2.1 (i_1) = true then 1 else 0)))), (0, .ref (a0)), (2, .int (nI (i_1)))]) hx hb dX4_howManySafe_35 rfl hl (by decide) rfl (fun ls hl => ?_)
    refine lv_iinc (v := nI (i_1 + 1)) (lv' := [(2, .int (nI (i_1 + 1))), (1, .int (nI ((cntN (cSafe u.2.1) (i_1)) + (if cSafe u.2.1 (i_1) = true then 1 else 0)))), (0, .ref (a0))]) hx hb dX4_howManySafe_36 hl (k := 2) rfl (nI_add _ _) (by decide) rfl (fun ls hl => ?_)
    refine lv_goto (tgt := 4) hx hb dX4_howManySafe_39 (by decide) ?_
    have ea_17 : cntN (cSafe u.2.1) (i_1 + 1) = (cntN (cSafe u.2.1) (i_1)) + (if cSafe u.2.1 (i_1) = true then 1 else 0) := by first | (simp [allN_s, anyN_s, cntN_s, sumL_s, Int64.add_assoc, cSafe, c_7] <;> omega) | grind [allN_s, anyN_s, cntN_s, sumL_s, Int64.add_assoc, cSafe]
    exact ih4 (H, locs, ls) (by omega) ⟨trivial, hB, by show lv_has ls 3 [(0, .ref (a0)), (1, .int (nI (cntN (cSafe u.2.1) (i_1 + 1)))), (2, .int (nI (i_1 + 1)))]; rw [ea_17]; exact lv_sub hl [2, 1, 0] rfl⟩
set_option maxHeartbeats 4000000 in
set_option maxRecDepth 100000 in
theorem c_X4_howManyCommits (l : Launch) (env : Ev) (s0 : Nat) (X : va_W) (u : St) (a0 : Nat) (_xa0 : Nat) (ha0 : At u 0 (0) a0) (hI : SI env u) (hNb : Nb u.2.1) : Met l yX4_howManyCommits [Cond.code yX4_howManyCommits cX4_howManyCommits 3 (some .int)] { frames := 0, cells := 0, slots := 0, locals := 0 } (va_Pc [.ref (a0)] (Pr env s0 X u)) (va_Qi (fun r u' => u = u' ∧ r = nI (sumN (cOwn u.2.1) (gN u.2.1 0 0 0))) (Po env s0 X) (fun q => s0 ≤ q)) 0 0 (fun q => s0 ≤ q) := by
  refine Met.ofW (cc := cX4_howManyCommits) (maxL := 3) (ret := (some .int)) (by decide) rfl ?_
  intro p e s m args below meth c s₁ B hml hv
  obtain ⟨rfl, hv⟩ := hv
  have hx := B.exec
  have hb := B.bytes
  have hr := B.returns
  have hts : ∀ ww ∈ TT, ww.before #[.ref (a0)] s = true := fun ww hw => hv.2.1 ww hw _
  have hown : s.vm.findClass RX4 = some m.cls := findClass_of_methodNamed B.named
  have hlocks := B.notSynchronized
  have hF : CallFix p m c cX4_howManyCommits 3 s #[.ref (a0)] TT RX4 := ⟨hx, hb, hml, hown, hts⟩
  have hB := Bd.entry hv
  have hl := lv_entry ([.ref (a0)]) (n := 3) (Nat.le_of_ble_eq_true rfl)
  rw [lg_entry_eq]
  generalize (lg_sl ([.ref (a0)]) ++ List.replicate (3 - (lg_sl ([.ref (a0)])).length) Slot.unset).toArray = ls at hl ⊢
  have hl : lv_has ls 3 [(0, .ref (a0))] := hl
  have hn4 := hI.nst
  refine lv_iconst (v := nI 0) hx hb dX4_howManyCommits_0 (by decide) ?_
  refine lv_istore_n (lv' := [(1, .int (nI (0))), (0, .ref (a0))]) hx hb dX4_howManyCommits_1 rfl hl (by decide) rfl (fun ls hl => ?_)
  refine lv_iconst (v := nI 0) hx hb dX4_howManyCommits_2 (by decide) ?_
  refine lv_istore_n (lv' := [(2, .int (nI (0))), (1, .int (nI (0))), (0, .ref (a0))]) hx hb dX4_howManyCommits_3 rfl hl (by decide) rfl (fun ls hl => ?_)
  refine wloopH (σ := Heap × List Loc × Array Slot) (G := fun x => W p l e _ s m _ below meth c x.1 x.2.1 _ _ _ (F0 m 4 x.2.2 [])) (P := fun i_1 x => (True) ∧ Bd env s0 X u s x.1 x.2.1 ∧ lv_has x.2.2 3 [(0, .ref (a0)), (1, .int (nI (sumN (cOwn u.2.1) (i_1)))), (2, .int (nI (i_1)))]) (N := gN u.2.1 0 0 0) ?_ 0 (_, _, ls) (Nat.zero_le _) ⟨trivial, hB, lv_sub hl [2, 1, 0] rfl⟩
  rintro i_1 ⟨H, locs, ls⟩ hi_2 ⟨hv_3, hB, hl⟩ ih4
  replace hB : Bd env s0 X u s H locs := hB
  replace hl : lv_has ls 3 [(0, .ref (a0)), (1, .int (nI (sumN (cOwn u.2.1) (i_1)))), (2, .int (nI (i_1)))] := hl
  show W p l e _ s m _ below meth c H locs _ _ _ (F0 m 4 ls [])
  have := hNb 0 0 0
  refine lv_iload_n hx hb dX4_howManyCommits_4 rfl (lv_at hl 2 rfl) ?_
  refine lv_aload_n hx hb dX4_howManyCommits_5 rfl (lv_at hl 0 rfl) ?_
  refine w_get (v := .int (nI (gN u.2.1 0 (0) (0)))) (fk := 1) hF hB ha0 (cn_0 env u (0)) rfl in_X4 (by decide) tw_1_82 rfl rfl dX4_howManyCommits_6 ?_
  refine w_icge_n (tgt := 32) (by omega) (by have := hNb 0 (0) (0); omega) hx hb dX4_howManyCommits_9 (by decide) (fun c_4 => ?_) (fun c_4 => ?_)
  · refine lv_iload_n hx hb dX4_howManyCommits_32 rfl (lv_at hl 1 rfl) ?_
    exact w_iret (v := nI (sumN (cOwn u.2.1) (i_1))) hF hr hlocks hB (⟨rfl, by rw [show i_1 = gN u.2.1 0 0 0 by omega]⟩) dX4_howManyCommits_33
  · refine lv_iload_n hx hb dX4_howManyCommits_12 rfl (lv_at hl 1 rfl) ?_
    refine lv_aload_n hx hb dX4_howManyCommits_13 rfl (lv_at hl 0 rfl) ?_
    refine w_get (v := .ref (sA u 1 (0))) (fk := 0) hF hB ha0 (cn_0 env u (0)) rfl in_X4 (by decide) tw_1_81 rfl rfl dX4_howManyCommits_14 ?_
    refine lv_iload_n hx hb dX4_howManyCommits_17 rfl (lv_at hl 2 rfl) ?_
    refine w_aldS hF hB ⟨hI.k1, rfl⟩ (cn_1 env u (0)) (by omega) rfl (by decide) dX4_howManyCommits_18 ?_
    refine w_getN (v := .ref (sA u 6 (i_1))) (fk := 1) hF hB ⟨(hI.k5 (by omega)), rfl⟩ (cn_5 env u (i_1)) rfl in_X1 (by decide) tw_1_67 rfl rfl dX4_howManyCommits_19 ?_
    refine lv_iload_n hx hb dX4_howManyCommits_22 rfl (lv_at hl 2 rfl) ?_
    refine w_iald (v := .int (nI (gN u.2.1 6 (i_1) (i_1)))) hF hB ⟨(hI.k6 (by omega)), rfl⟩ (cn_6 env u (i_1)) (by omega) rfl (by decide) dX4_howManyCommits_23 ?_
    refine w_iadd_n hx hb dX4_howManyCommits_24 ?_
    refine lv_istore_n (lv' := [(1, .int (nI ((sumN (cOwn u.2.1) (i_1)) + (gN u.2.1 6 (i_1) (i_1))))), (0, .ref (a0)), (2, .int (nI (i_1)))]) hx hb dX4_howManyCommits_25 rfl hl (by decide) rfl (fun ls hl => ?_)
    refine lv_iinc (v := nI (i_1 + 1)) (lv' := [(2, .int (nI (i_1 + 1))), (1, .int (nI ((sumN (cOwn u.2.1) (i_1)) + (gN u.2.1 6 (i_1) (i_1))))), (0, .ref (a0))]) hx hb dX4_howManyCommits_26 hl (k := 2) rfl (nI_add _ _) (by decide) rfl (fun ls hl => ?_)
    refine lv_goto (tgt := 4) hx hb dX4_howManyCommits_29 (by decide) ?_
    have ea_5 : sumN (cOwn u.2.1) (i_1 + 1) = (sumN (cOwn u.2.1) (i_1)) + (gN u.2.1 6 (i_1) (i_1)) := by first | (simp [allN_s, anyN_s, cntN_s, sumL_s, Int64.add_assoc, cOwn, sumN_s, c_4] <;> omega) | grind [allN_s, anyN_s, cntN_s, sumL_s, Int64.add_assoc, cOwn, sumN_s]
    exact ih4 (H, locs, ls) (by omega) ⟨trivial, hB, by show lv_has ls 3 [(0, .ref (a0)), (1, .int (nI (sumN (cOwn u.2.1) (i_1 + 1)))), (2, .int (nI (i_1 + 1)))]; rw [ea_5]; exact lv_sub hl [2, 1, 0] rfl⟩
set_option maxHeartbeats 4000000 in
set_option maxRecDepth 100000 in
theorem c_X4_howManyLocks (l : Launch) (env : Ev) (s0 : Nat) (X : va_W) (u : St) (a0 : Nat) (_xa0 : Nat) (ha0 : At u 0 (0) a0) (hI : SI env u) (hNb : Nb u.2.1) : Met l yX4_howManyLocks [Cond.code yX4_howManyLocks cX4_howManyLocks 3 (some .int)] { frames := 2, cells := 0, slots := 0, locals := 42 } (va_Pc [.ref (a0)] (Pr env s0 X u)) (va_Qi (fun r u' => u = u' ∧ r = nI (sumN (cLkd u.2.1) (gN u.2.1 0 0 0))) (Po env s0 X) (fun q => s0 ≤ q)) 0 0 (fun q => s0 ≤ q) := by
  refine Met.ofW (cc := cX4_howManyLocks) (maxL := 3) (ret := (some .int)) (by decide) rfl ?_
  intro p e s m args below meth c s₁ B hml hv
  obtain ⟨rfl, hv⟩ := hv
  have hx := B.exec
  have hb := B.bytes
  have hr := B.returns
  have hts : ∀ ww ∈ TT, ww.before #[.ref (a0)] s = true := fun ww hw => hv.2.1 ww hw _
  have hown : s.vm.findClass RX4 = some m.cls := findClass_of_methodNamed B.named
  have hlocks := B.notSynchronized
  have hF : CallFix p m c cX4_howManyLocks 3 s #[.ref (a0)] TT RX4 := ⟨hx, hb, hml, hown, hts⟩
  have hB := Bd.entry hv
  have hl := lv_entry ([.ref (a0)]) (n := 3) (Nat.le_of_ble_eq_true rfl)
  rw [lg_entry_eq]
  generalize (lg_sl ([.ref (a0)]) ++ List.replicate (3 - (lg_sl ([.ref (a0)])).length) Slot.unset).toArray = ls at hl ⊢
  have hl : lv_has ls 3 [(0, .ref (a0))] := hl
  have hn4 := hI.nst
  refine lv_iconst (v := nI 0) hx hb dX4_howManyLocks_0 (by decide) ?_
  refine lv_istore_n (lv' := [(1, .int (nI (0))), (0, .ref (a0))]) hx hb dX4_howManyLocks_1 rfl hl (by decide) rfl (fun ls hl => ?_)
  refine lv_iconst (v := nI 0) hx hb dX4_howManyLocks_2 (by decide) ?_
  refine lv_istore_n (lv' := [(2, .int (nI (0))), (1, .int (nI (0))), (0, .ref (a0))]) hx hb dX4_howManyLocks_3 rfl hl (by decide) rfl (fun ls hl => ?_)
  refine wloopH (σ := Heap × List Loc × Array Slot) (G := fun x => W p l e _ s m _ below meth c x.1 x.2.1 _ _ _ (F0 m 4 x.2.2 [])) (P := fun i_1 x => (True) ∧ Bd env s0 X u s x.1 x.2.1 ∧ lv_has x.2.2 3 [(0, .ref (a0)), (1, .int (nI (sumN (cLkd u.2.1) (i_1)))), (2, .int (nI (i_1)))]) (N := gN u.2.1 0 0 0) ?_ 0 (_, _, ls) (Nat.zero_le _) ⟨trivial, hB, lv_sub hl [2, 1, 0] rfl⟩
  rintro i_1 ⟨H, locs, ls⟩ hi_2 ⟨hv_3, hB, hl⟩ ih4
  replace hB : Bd env s0 X u s H locs := hB
  replace hl : lv_has ls 3 [(0, .ref (a0)), (1, .int (nI (sumN (cLkd u.2.1) (i_1)))), (2, .int (nI (i_1)))] := hl
  show W p l e _ s m _ below meth c H locs _ _ _ (F0 m 4 ls [])
  have := hNb 0 0 0
  refine lv_iload_n hx hb dX4_howManyLocks_4 rfl (lv_at hl 2 rfl) ?_
  refine lv_aload_n hx hb dX4_howManyLocks_5 rfl (lv_at hl 0 rfl) ?_
  refine w_get (v := .int (nI (gN u.2.1 0 (0) (0)))) (fk := 1) hF hB ha0 (cn_0 env u (0)) rfl in_X4 (by decide) tw_1_82 rfl rfl dX4_howManyLocks_6 ?_
  refine w_icge_n (tgt := 30) (by omega) (by have := hNb 0 (0) (0); omega) hx hb dX4_howManyLocks_9 (by decide) (fun c_4 => ?_) (fun c_4 => ?_)
  · refine lv_iload_n hx hb dX4_howManyLocks_30 rfl (lv_at hl 1 rfl) ?_
    exact w_iret (v := nI (sumN (cLkd u.2.1) (i_1))) hF hr hlocks hB (⟨rfl, by rw [show i_1 = gN u.2.1 0 0 0 by omega]⟩) dX4_howManyLocks_31
  · refine lv_iload_n hx hb dX4_howManyLocks_12 rfl (lv_at hl 1 rfl) ?_
    refine lv_aload_n hx hb dX4_howManyLocks_13 rfl (lv_at hl 0 rfl) ?_
    refine w_get (v := .ref (sA u 1 (0))) (fk := 0) hF hB ha0 (cn_0 env u (0)) rfl in_X4 (by decide) tw_1_81 rfl rfl dX4_howManyLocks_14 ?_
    refine lv_iload_n hx hb dX4_howManyLocks_17 rfl (lv_at hl 2 rfl) ?_
    refine w_aldS hF hB ⟨hI.k1, rfl⟩ (cn_1 env u (0)) (by omega) rfl (by decide) dX4_howManyLocks_18 ?_
    refine w_ci (r_VN (As := []) (rest := [.int (nI (sumN (cLkd u.2.1) (i_1)))]) hF hB (c_X1_howManyLocked l env s0 X u (sA u 5 (i_1)) (i_1) (⟨(hI.k5 (by omega)), rfl⟩) hI hNb (by omega)) cv_X1_howManyLocked tw_3_80 ⟨rfl, rfl, by decide, by decide⟩ (hB.recv ⟨(hI.k5 (by omega)), rfl⟩ (cn_5 env u (i_1)) rfl) rfl hl.1 rfl (lv_room (Nat.le_of_ble_eq_true rfl)) dX4_howManyLocks_19 ⟨Nat.le_of_ble_eq_true rfl, Nat.le_of_ble_eq_true rfl⟩) hB (fun r_5 u_7 H locs hq_6 hB => ?_)
    obtain ⟨rfl, rfl⟩ := hq_6
    refine w_iadd_n hx hb dX4_howManyLocks_22 ?_
    refine lv_istore_n (lv' := [(1, .int (nI ((sumN (cLkd u.2.1) (i_1)) + (cLkd u.2.1 (i_1))))), (0, .ref (a0)), (2, .int (nI (i_1)))]) hx hb dX4_howManyLocks_23 rfl hl (by decide) rfl (fun ls hl => ?_)
    refine lv_iinc (v := nI (i_1 + 1)) (lv' := [(2, .int (nI (i_1 + 1))), (1, .int (nI ((sumN (cLkd u.2.1) (i_1)) + (cLkd u.2.1 (i_1))))), (0, .ref (a0))]) hx hb dX4_howManyLocks_24 hl (k := 2) rfl (nI_add _ _) (by decide) rfl (fun ls hl => ?_)
    refine lv_goto (tgt := 4) hx hb dX4_howManyLocks_27 (by decide) ?_
    have ea_8 : sumN (cLkd u.2.1) (i_1 + 1) = (sumN (cLkd u.2.1) (i_1)) + (cLkd u.2.1 (i_1)) := by first | (simp [allN_s, anyN_s, cntN_s, sumL_s, Int64.add_assoc, sumN_s, c_4] <;> omega) | grind [allN_s, anyN_s, cntN_s, sumL_s, Int64.add_assoc, sumN_s]
    exact ih4 (H, locs, ls) (by omega) ⟨trivial, hB, by show lv_has ls 3 [(0, .ref (a0)), (1, .int (nI (sumN (cLkd u.2.1) (i_1 + 1)))), (2, .int (nI (i_1 + 1)))]; rw [ea_8]; exact lv_sub hl [2, 1, 0] rfl⟩
set_option maxHeartbeats 4000000 in
set_option maxRecDepth 100000 in
theorem c_X4_firstThatCanCome (l : Launch) (env : Ev) (s0 : Nat) (X : va_W) (u : St) (a0 : Nat) (_xa0 : Nat) (ha0 : At u 0 (0) a0) (hI : SI env u) (hNb : Nb u.2.1) : Met l yX4_firstThatCanCome [Cond.code yX4_firstThatCanCome cX4_firstThatCanCome 2 (some .int)] { frames := 3, cells := 0, slots := 0, locals := 64 } (va_Pc [.ref (a0)] (Pr env s0 X u)) (va_Qi (fun r u' => u = u' ∧ r = (match cFirst u.2.1 with | none => (-4 : Int32) | some i => nI i)) (Po env s0 X) (fun q => s0 ≤ q)) 0 0 (fun q => s0 ≤ q) := by
  refine Met.ofW (cc := cX4_firstThatCanCome) (maxL := 2) (ret := (some .int)) (by decide) rfl ?_
  intro p e s m args below meth c s₁ B hml hv
  obtain ⟨rfl, hv⟩ := hv
  have hx := B.exec
  have hb := B.bytes
  have hr := B.returns
  have hts : ∀ ww ∈ TT, ww.before #[.ref (a0)] s = true := fun ww hw => hv.2.1 ww hw _
  have hown : s.vm.findClass RX4 = some m.cls := findClass_of_methodNamed B.named
  have hlocks := B.notSynchronized
  have hF : CallFix p m c cX4_firstThatCanCome 2 s #[.ref (a0)] TT RX4 := ⟨hx, hb, hml, hown, hts⟩
  have hB := Bd.entry hv
  have hl := lv_entry ([.ref (a0)]) (n := 2) (Nat.le_of_ble_eq_true rfl)
  rw [lg_entry_eq]
  generalize (lg_sl ([.ref (a0)]) ++ List.replicate (2 - (lg_sl ([.ref (a0)])).length) Slot.unset).toArray = ls at hl ⊢
  have hl : lv_has ls 2 [(0, .ref (a0))] := hl
  refine lv_iconst (v := nI 0) hx hb dX4_firstThatCanCome_0 (by decide) ?_
  refine lv_istore_n (lv' := [(1, .int (nI (0))), (0, .ref (a0))]) hx hb dX4_firstThatCanCome_1 rfl hl (by decide) rfl (fun ls hl => ?_)
  refine wloopH (σ := Heap × List Loc × Array Slot) (G := fun x => W p l e _ s m _ below meth c x.1 x.2.1 _ _ _ (F0 m 2 x.2.2 [])) (P := fun i_1 x => (∀ j, j < i_1 → cMsQ u.2.1 j = false) ∧ Bd env s0 X u s x.1 x.2.1 ∧ lv_has x.2.2 2 [(0, .ref (a0)), (1, .int (nI (i_1)))]) (N := gN u.2.1 3 2 0) ?_ 0 (_, _, ls) (Nat.zero_le _) ⟨(fun q h => absurd h (Nat.not_lt_zero q)), hB, lv_sub hl [1, 0] rfl⟩
  rintro i_1 ⟨H, locs, ls⟩ hi_2 ⟨hv_3, hB, hl⟩ ih2
  replace hB : Bd env s0 X u s H locs := hB
  replace hl : lv_has ls 2 [(0, .ref (a0)), (1, .int (nI (i_1)))] := hl
  show W p l e _ s m _ below meth c H locs _ _ _ (F0 m 2 ls [])
  have := hNb 3 2 0
  refine lv_iload_n hx hb dX4_firstThatCanCome_2 rfl (lv_at hl 1 rfl) ?_
  refine lv_aload_n hx hb dX4_firstThatCanCome_3 rfl (lv_at hl 0 rfl) ?_
  refine w_get (v := .ref (sA u 2 (2))) (fk := 5) hF hB ha0 (cn_0 env u (0)) rfl in_X4 (by decide) tw_1_86 rfl rfl dX4_firstThatCanCome_4 ?_
  refine w_ci (r_V (As := []) (rest := [.int (nI (i_1))]) hF hB (c_Jx4a65c_size_8abf5 l env s0 X u (sA u 2 (2)) (2) (⟨(hI.k2 (by decide)), rfl⟩) ) cv_Jx4a65c_size_8abf5 tw_1_116 ⟨rfl, rfl, by decide, by decide⟩ (hB.recv ⟨(hI.k2 (by decide)), rfl⟩ (cn_2 env u (2)) rfl) rfl hl.1 rfl (lv_room (Nat.le_of_ble_eq_true rfl)) dX4_firstThatCanCome_7 ⟨Nat.le_of_ble_eq_true rfl, Nat.le_of_ble_eq_true rfl⟩) hB (fun r_4 u_6 H locs hq_5 hB => ?_)
  obtain ⟨rfl, rfl⟩ := hq_5
  refine w_icge_n (tgt := 38) (by omega) (by have := hNb 3 (2) 0; omega) hx hb dX4_firstThatCanCome_10 (by decide) (fun c_7 => ?_) (fun c_7 => ?_)
  · refine lv_bipush (v := -4) hx hb dX4_firstThatCanCome_38 (by decide) ?_
    exact w_iret (v := -4) hF hr hlocks hB (⟨rfl, by rw [cFirst, firstN_none (fun q hq => hv_3 q (by omega))]⟩) dX4_firstThatCanCome_40
  · refine lv_aload_n hx hb dX4_firstThatCanCome_13 rfl (lv_at hl 0 rfl) ?_
    refine w_get (v := .ref (sA u 2 (2))) (fk := 5) hF hB ha0 (cn_0 env u (0)) rfl in_X4 (by decide) tw_1_86 rfl rfl dX4_firstThatCanCome_14 ?_
    refine lv_iload_n hx hb dX4_firstThatCanCome_17 rfl (lv_at hl 1 rfl) ?_
    refine w_cq (r_V (As := [.int (nI (i_1))]) (rest := []) hF hB (c_Jx4a65c_get_915e3 l env s0 X u (sA u 2 (2)) (2) (⟨(hI.k2 (by decide)), rfl⟩) (i_1) hNb (hI.get (by decide) c_7).1 c_7 (hI.get (by decide) c_7).2.1 (hI.get (by decide) c_7).2.2) cv_Jx4a65c_get_915e3 tw_2_42 ⟨rfl, rfl, by decide, by decide⟩ (hB.recv ⟨(hI.k2 (by decide)), rfl⟩ (cn_2 env u (2)) rfl) rfl hl.1 rfl (lv_room (by decide)) dX4_firstThatCanCome_18 ⟨Nat.le_of_ble_eq_true rfl, Nat.le_of_ble_eq_true rfl⟩) hB (fun r_8 u_10 H locs hq_9 hB => ?_)
    obtain ⟨rfl, rfl⟩ := hq_9
    rw [hI.e2 c_7]
    show W p l e _ s m _ below meth c H locs _ _ _ (F0 m _ ls [.ref (sA u 14 (gN u.2.1 31 (0) (i_1)))])
    refine w_cast hF hB tw_2_149 tw_4_106 (hB.recv ⟨(hI.k14 c_7), rfl⟩ (cn_14 env u (gN u.2.1 31 (0) (i_1))) rfl) dX4_firstThatCanCome_21 ?_
    refine w_ci (r_VN (As := []) (rest := []) hF hB (c_X0_canCome l env s0 X u (sA u 14 (gN u.2.1 31 (0) (i_1))) (gN u.2.1 31 (0) (i_1)) (⟨(hI.k14 c_7), rfl⟩) hI hNb) cv_X0_canCome tw_2_205 ⟨rfl, rfl, by decide, by decide⟩ (hB.recv ⟨(hI.k14 c_7), rfl⟩ (cn_14 env u (gN u.2.1 31 (0) (i_1))) rfl) rfl hl.1 rfl (lv_room (by decide)) dX4_firstThatCanCome_24 ⟨Nat.le_of_ble_eq_true rfl, Nat.le_of_ble_eq_true rfl⟩) hB (fun r_11 u_13 H locs hq_12 hB => ?_)
    obtain ⟨rfl, rfl⟩ := hq_12
    refine w_ifeq_b (tgt := 32) hx hb dX4_firstThatCanCome_27 (by decide) (fun c_14 => ?_) (fun c_14 => ?_)
    · refine lv_iinc (v := nI (i_1 + 1)) (lv' := [(1, .int (nI (i_1 + 1))), (0, .ref (a0))]) hx hb dX4_firstThatCanCome_32 hl (k := 1) rfl (nI_add _ _) (by decide) rfl (fun ls hl => ?_)
      refine lv_goto (tgt := 2) hx hb dX4_firstThatCanCome_35 (by decide) ?_
      exact ih2 (H, locs, ls) (by omega) ⟨lt_st hv_3 c_14, hB, by exact lv_sub hl [1, 0] rfl⟩
    · refine lv_iload_n hx hb dX4_firstThatCanCome_30 rfl (lv_at hl 1 rfl) ?_
      exact w_iret (v := nI i_1) hF hr hlocks hB (⟨rfl, by rw [cFirst, firstN_some (q := cMsQ u.2.1) c_14 hv_3 c_7]⟩) dX4_firstThatCanCome_31
set_option maxHeartbeats 4000000 in
set_option maxRecDepth 100000 in
theorem c_X4_read (l : Launch) (env : Ev) (s0 : Nat) (X : va_W) (u : St) (a0 : Nat) (_xa0 : Nat) (ha0 : At u 0 (0) a0) (v1 : Int32) (v2 : Int32) (hI : SI env u) (hNb : Nb u.2.1) : Met l yX4_read [Cond.code yX4_read cX4_read 5 (some .long)] { frames := 5, cells := 0, slots := 0, locals := 107 } (va_Pc [.ref (a0), .int (v1), .int (v2)] (Pr env s0 X u)) (va_Ql (fun r u' => u = u' ∧ r = cread u.2.1 v1 v2) (Po env s0 X) (fun q => s0 ≤ q)) 0 0 (fun q => s0 ≤ q) := by
  refine Met.ofW (cc := cX4_read) (maxL := 5) (ret := (some .long)) (by decide) rfl ?_
  intro p e s m args below meth c s₁ B hml hv
  obtain ⟨rfl, hv⟩ := hv
  have hx := B.exec
  have hb := B.bytes
  have hr := B.returns
  have hts : ∀ ww ∈ TT, ww.before #[.ref (a0), .int (v1), .int (v2)] s = true := fun ww hw => hv.2.1 ww hw _
  have hown : s.vm.findClass RX4 = some m.cls := findClass_of_methodNamed B.named
  have hlocks := B.notSynchronized
  have hF : CallFix p m c cX4_read 5 s #[.ref (a0), .int (v1), .int (v2)] TT RX4 := ⟨hx, hb, hml, hown, hts⟩
  have hB := Bd.entry hv
  have hl := lv_entry ([.ref (a0), .int (v1), .int (v2)]) (n := 5) (Nat.le_of_ble_eq_true rfl)
  rw [lg_entry_eq]
  generalize (lg_sl ([.ref (a0), .int (v1), .int (v2)]) ++ List.replicate (5 - (lg_sl ([.ref (a0), .int (v1), .int (v2)])).length) Slot.unset).toArray = ls at hl ⊢
  have hl : lv_has ls 5 [(0, .ref (a0)), (1, .int (v1)), (2, .int (v2))] := hl
  have hn4 := hI.nst
  have hn1 := hI.nth
  have hn2 := hI.ntx
  refine lv_aload_n hx hb dX4_read_0 rfl (lv_at hl 0 rfl) ?_
  refine lv_iload_n hx hb dX4_read_1 rfl (lv_at hl 1 rfl) ?_
  refine w_cq (r_V (As := [.int (v1)]) (rest := []) hF hB (c_X4_findTransaction l env s0 X u (a0) (0) (ha0) (v1) hI hNb) cv_X4_findTransaction tw_2_38 ⟨rfl, rfl, by decide, by decide⟩ (hB.recv ha0 (cn_0 env u (0)) rfl) rfl hl.1 rfl (lv_room (by decide)) dX4_read_2 ⟨Nat.le_of_ble_eq_true rfl, Nat.le_of_ble_eq_true rfl⟩) hB (fun r_1 u_3 H locs hq_2 hB => ?_)
  obtain ⟨rfl, rfl⟩ := hq_2
  rcases hj_5 : ix v1 (gN u.2.1 3 1 0) with _ | j_4
  · show W p l e _ s m _ below meth c H locs _ _ _ (F0 m _ ls [.null])
    refine lv_astore_nN (lv' := [(3, .null), (0, .ref (a0)), (1, .int (v1)), (2, .int (v2))]) hx hb dX4_read_5 rfl hl (by decide) rfl (fun ls hl => ?_)
    refine lv_aload_n hx hb dX4_read_6 rfl (lv_at hl 1 rfl) ?_
    refine lv_iload_n hx hb dX4_read_7 rfl (lv_at hl 3 rfl) ?_
    refine w_cq (r_V (As := [.int (v2)]) (rest := []) hF hB (c_X4_findPlain l env s0 X u (a0) (0) (ha0) (v2) hI hNb) cv_X4_findPlain tw_2_56 ⟨rfl, rfl, by decide, by decide⟩ (hB.recv ha0 (cn_0 env u (0)) rfl) rfl hl.1 rfl (lv_room (by decide)) dX4_read_8 ⟨Nat.le_of_ble_eq_true rfl, Nat.le_of_ble_eq_true rfl⟩) hB (fun r_7 u_9 H locs hq_8 hB => ?_)
    obtain ⟨rfl, rfl⟩ := hq_8
    rcases hj_11 : ix v2 (gN u.2.1 3 0 0) with _ | j_10
    · rw [show cPlain u v2 = none from by simp [cPlain, hj_11]]
      show W p l e _ s m _ below meth c H locs _ _ _ (F0 m _ ls [.null])
      refine lv_astoreN (lv' := [(4, .null), (3, .null), (0, .ref (a0)), (1, .int (v1)), (2, .int (v2))]) hx hb dX4_read_11 hl (by decide) rfl (fun ls hl => ?_)
      refine lv_aload_nN hx hb dX4_read_13 rfl (lv_at hl 1 rfl) ?_
      refine lv_ifnullN (tgt := 22) hx hb dX4_read_14 (by decide) ?_
      refine lv_lconst (v := 0) hx hb dX4_read_22 (by decide) ?_
      exact w_lret (v := 0) hF hr hlocks hB (⟨rfl, by simp [cread, cRead, hj_5, hj_11]⟩) dX4_read_23
    · obtain ⟨hjl_12, rfl⟩ := ix_some (by have := hNb 3 0 0; omega) hj_11
      rcases hs_13 : gB u.2.1 4 j_10 0 with _ | _
      · rw [show cPlain u (nI j_10) = some (sA u 4 j_10) from by simp [cPlain, hj_11, hs_13]]
        show W p l e _ s m _ below meth c H locs _ _ _ (F0 m _ ls [.ref (sA u 4 (j_10))])
        refine lv_astore (lv' := [(4, .ref (sA u 4 (j_10))), (3, .null), (0, .ref (a0)), (1, .int (v1)), (2, .int (nI (j_10)))]) hx hb dX4_read_11 hl (by decide) rfl (fun ls hl => ?_)
        refine lv_aload_nN hx hb dX4_read_13 rfl (lv_at hl 1 rfl) ?_
        refine lv_ifnullN (tgt := 22) hx hb dX4_read_14 (by decide) ?_
        refine lv_lconst (v := 0) hx hb dX4_read_22 (by decide) ?_
        exact w_lret (v := 0) hF hr hlocks hB (⟨rfl, by simp [cread, cRead, hj_5, hj_11, hs_13]⟩) dX4_read_23
      · rw [show cPlain u (nI j_10) = none from by simp [cPlain, hj_11, hs_13]]
        show W p l e _ s m _ below meth c H locs _ _ _ (F0 m _ ls [.null])
        refine lv_astoreN (lv' := [(4, .null), (3, .null), (0, .ref (a0)), (1, .int (v1)), (2, .int (nI (j_10)))]) hx hb dX4_read_11 hl (by decide) rfl (fun ls hl => ?_)
        refine lv_aload_nN hx hb dX4_read_13 rfl (lv_at hl 1 rfl) ?_
        refine lv_ifnullN (tgt := 22) hx hb dX4_read_14 (by decide) ?_
        refine lv_lconst (v := 0) hx hb dX4_read_22 (by decide) ?_
        exact w_lret (v := 0) hF hr hlocks hB (⟨rfl, by simp [cread, cRead, hj_5, hj_11, hs_13]⟩) dX4_read_23
  · obtain ⟨hjl_6, rfl⟩ := ix_some (by have := hNb 3 1 0; omega) hj_5
    show W p l e _ s m _ below meth c H locs _ _ _ (F0 m _ ls [.ref (sA u 8 (j_4))])
    refine lv_astore_n (lv' := [(3, .ref (sA u 8 (j_4))), (0, .ref (a0)), (1, .int (nI (j_4))), (2, .int (v2))]) hx hb dX4_read_5 rfl hl (by decide) rfl (fun ls hl => ?_)
    refine lv_aload_n hx hb dX4_read_6 rfl (lv_at hl 1 rfl) ?_
    refine lv_iload_n hx hb dX4_read_7 rfl (lv_at hl 3 rfl) ?_
    refine w_cq (r_V (As := [.int (v2)]) (rest := []) hF hB (c_X4_findPlain l env s0 X u (a0) (0) (ha0) (v2) hI hNb) cv_X4_findPlain tw_2_56 ⟨rfl, rfl, by decide, by decide⟩ (hB.recv ha0 (cn_0 env u (0)) rfl) rfl hl.1 rfl (lv_room (by decide)) dX4_read_8 ⟨Nat.le_of_ble_eq_true rfl, Nat.le_of_ble_eq_true rfl⟩) hB (fun r_14 u_16 H locs hq_15 hB => ?_)
    obtain ⟨rfl, rfl⟩ := hq_15
    rcases hj_18 : ix v2 (gN u.2.1 3 0 0) with _ | j_17
    · rw [show cPlain u v2 = none from by simp [cPlain, hj_18]]
      show W p l e _ s m _ below meth c H locs _ _ _ (F0 m _ ls [.null])
      refine lv_astoreN (lv' := [(4, .null), (3, .ref (sA u 8 (j_4))), (0, .ref (a0)), (1, .int (nI (j_4))), (2, .int (v2))]) hx hb dX4_read_11 hl (by decide) rfl (fun ls hl => ?_)
      refine lv_aload_n hx hb dX4_read_13 rfl (lv_at hl 1 rfl) ?_
      refine lv_ifnull hx hb dX4_read_14 ?_
      refine lv_aloadN hx hb dX4_read_17 (lv_at hl 0 rfl) ?_
      refine lv_ifnonnullN hx hb dX4_read_19 ?_
      refine lv_lconst (v := 0) hx hb dX4_read_22 (by decide) ?_
      exact w_lret (v := 0) hF hr hlocks hB (⟨rfl, by simp [cread, cRead, hj_5, hj_18]⟩) dX4_read_23
    · obtain ⟨hjl_19, rfl⟩ := ix_some (by have := hNb 3 0 0; omega) hj_18
      rcases hs_20 : gB u.2.1 4 j_17 0 with _ | _
      · rw [show cPlain u (nI j_17) = some (sA u 4 j_17) from by simp [cPlain, hj_18, hs_20]]
        show W p l e _ s m _ below meth c H locs _ _ _ (F0 m _ ls [.ref (sA u 4 (j_17))])
        refine lv_astore (lv' := [(4, .ref (sA u 4 (j_17))), (3, .ref (sA u 8 (j_4))), (0, .ref (a0)), (1, .int (nI (j_4))), (2, .int (nI (j_17)))]) hx hb dX4_read_11 hl (by decide) rfl (fun ls hl => ?_)
        refine lv_aload_n hx hb dX4_read_13 rfl (lv_at hl 1 rfl) ?_
        refine lv_ifnull hx hb dX4_read_14 ?_
        refine lv_aload hx hb dX4_read_17 (lv_at hl 0 rfl) ?_
        refine lv_ifnonnull (tgt := 24) hx hb dX4_read_19 (by decide) ?_
        refine lv_aload_n hx hb dX4_read_24 rfl (lv_at hl 1 rfl) ?_
        refine w_getN (v := .ref (sA u 10 (j_4))) (fk := 3) hF hB ⟨(hI.k8 hjl_6), rfl⟩ (cn_8 env u (j_4)) rfl in_X3 (by decide) tw_1_223 rfl rfl dX4_read_25 ?_
        refine lv_aload hx hb dX4_read_28 (lv_at hl 0 rfl) ?_
        refine w_getN (v := .int (nI (j_17))) (fk := 0) hF hB ⟨(hI.k4 hjl_19), rfl⟩ (cn_4 env u (j_17)) rfl in_X2 (by decide) tw_1_129 rfl rfl dX4_read_30 ?_
        refine w_zald (v := .int (b2i (gB u.2.1 10 (j_4) (j_17)))) hF hB ⟨(hI.k10 (hI.k8 hjl_6)), rfl⟩ (cn_10 env u (j_4)) (by omega) rfl (by decide) dX4_read_33 ?_
        refine w_ifeq_b (tgt := 50) hx hb dX4_read_34 (by decide) (fun c_21 => ?_) (fun c_21 => ?_)
        · refine lv_aload_n hx hb dX4_read_50 rfl (lv_at hl 1 rfl) ?_
          refine w_getN (v := .ref (sA u 5 (gN u.2.1 26 (j_4) 0))) (fk := 1) hF hB ⟨(hI.k8 hjl_6), rfl⟩ (cn_8 env u (j_4)) rfl in_X3 (by decide) tw_1_217 rfl rfl dX4_read_51 ?_
          refine lv_aload hx hb dX4_read_54 (lv_at hl 0 rfl) ?_
          refine lv_aload_n hx hb dX4_read_56 rfl (lv_at hl 1 rfl) ?_
          refine w_getN (v := .ref (sA u 9 (j_4))) (fk := 2) hF hB ⟨(hI.k8 hjl_6), rfl⟩ (cn_8 env u (j_4)) rfl in_X3 (by decide) tw_1_220 rfl rfl dX4_read_57 ?_
          refine w_cl (r_VN (As := [.ref (sA u 4 (j_17)), .ref (sA u 9 (j_4))]) (rest := []) hF hB (c_X1_valueOf l env s0 X u (sA u 5 (gN u.2.1 26 (j_4) 0)) (gN u.2.1 26 (j_4) 0) (⟨(hI.k5 (hI.tx (hI.k8 hjl_6)).2), rfl⟩) (sA u 4 (j_17)) (j_17) (⟨(hI.k4 hjl_19), rfl⟩) (sA u 9 (j_4)) (9) (j_4) (⟨(hI.k9 (hI.k8 hjl_6)), rfl⟩) hI hNb (hI.tx (hI.k8 hjl_6)).2 (Or.inr rfl)) cv_X1_valueOf tw_2_64 ⟨rfl, rfl, by decide, by decide⟩ (hB.recv ⟨(hI.k5 (hI.tx (hI.k8 hjl_6)).2), rfl⟩ (cn_5 env u (gN u.2.1 26 (j_4) 0)) rfl) rfl hl.1 rfl (lv_room (by decide)) dX4_read_60 ⟨Nat.le_of_ble_eq_true rfl, Nat.le_of_ble_eq_true rfl⟩) hB (fun r_22 u_24 H locs hq_23 hB => ?_)
          obtain ⟨rfl, rfl⟩ := hq_23
          exact w_lret (v := cValueOf u.2.1 (gN u.2.1 26 (j_4) 0) (j_17) 9 j_4) hF hr hlocks hB (⟨rfl, by simp [cread, cRead, hj_5, hj_18, hs_20, c_21]⟩) dX4_read_63
        · refine lv_aload_n hx hb dX4_read_37 rfl (lv_at hl 1 rfl) ?_
          refine w_getN (v := .ref (sA u 11 (j_4))) (fk := 4) hF hB ⟨(hI.k8 hjl_6), rfl⟩ (cn_8 env u (j_4)) rfl in_X3 (by decide) tw_1_226 rfl rfl dX4_read_38 ?_
          refine lv_aload hx hb dX4_read_41 (lv_at hl 0 rfl) ?_
          refine w_getN (v := .int (nI (j_17))) (fk := 0) hF hB ⟨(hI.k4 hjl_19), rfl⟩ (cn_4 env u (j_17)) rfl in_X2 (by decide) tw_1_129 rfl rfl dX4_read_43 ?_
          refine w_lald (v := .long (gJ u.2.1 11 (j_4) (j_17))) hF hB ⟨(hI.k11 (hI.k8 hjl_6)), rfl⟩ (cn_11 env u (j_4)) (by omega) rfl (by decide) dX4_read_46 ?_
          refine lv_goto (tgt := 63) hx hb dX4_read_47 (by decide) ?_
          exact w_lret (v := gJ u.2.1 11 (j_4) (j_17)) hF hr hlocks hB (⟨rfl, by simp [cread, cRead, hj_5, hj_18, hs_20, c_21]⟩) dX4_read_63
      · rw [show cPlain u (nI j_17) = none from by simp [cPlain, hj_18, hs_20]]
        show W p l e _ s m _ below meth c H locs _ _ _ (F0 m _ ls [.null])
        refine lv_astoreN (lv' := [(4, .null), (3, .ref (sA u 8 (j_4))), (0, .ref (a0)), (1, .int (nI (j_4))), (2, .int (nI (j_17)))]) hx hb dX4_read_11 hl (by decide) rfl (fun ls hl => ?_)
        refine lv_aload_n hx hb dX4_read_13 rfl (lv_at hl 1 rfl) ?_
        refine lv_ifnull hx hb dX4_read_14 ?_
        refine lv_aloadN hx hb dX4_read_17 (lv_at hl 0 rfl) ?_
        refine lv_ifnonnullN hx hb dX4_read_19 ?_
        refine lv_lconst (v := 0) hx hb dX4_read_22 (by decide) ?_
        exact w_lret (v := 0) hF hr hlocks hB (⟨rfl, by simp [cread, cRead, hj_5, hj_18, hs_20]⟩) dX4_read_23
set_option maxHeartbeats 4000000 in
set_option maxRecDepth 100000 in
theorem c_X4_latest (l : Launch) (env : Ev) (s0 : Nat) (X : va_W) (u : St) (a0 : Nat) (_xa0 : Nat) (ha0 : At u 0 (0) a0) (v1 : Int32) (v2 : Int32) (hI : SI env u) (hNb : Nb u.2.1) : Met l yX4_latest [Cond.code yX4_latest cX4_latest 5 (some .long)] { frames := 5, cells := 0, slots := 0, locals := 107 } (va_Pc [.ref (a0), .int (v1), .int (v2)] (Pr env s0 X u)) (va_Ql (fun r u' => u = u' ∧ r = clatest u.2.1 v1 v2) (Po env s0 X) (fun q => s0 ≤ q)) 0 0 (fun q => s0 ≤ q) := by
  refine Met.ofW (cc := cX4_latest) (maxL := 5) (ret := (some .long)) (by decide) rfl ?_
  intro p e s m args below meth c s₁ B hml hv
  obtain ⟨rfl, hv⟩ := hv
  have hx := B.exec
  have hb := B.bytes
  have hr := B.returns
  have hts : ∀ ww ∈ TT, ww.before #[.ref (a0), .int (v1), .int (v2)] s = true := fun ww hw => hv.2.1 ww hw _
  have hown : s.vm.findClass RX4 = some m.cls := findClass_of_methodNamed B.named
  have hlocks := B.notSynchronized
  have hF : CallFix p m c cX4_latest 5 s #[.ref (a0), .int (v1), .int (v2)] TT RX4 := ⟨hx, hb, hml, hown, hts⟩
  have hB := Bd.entry hv
  have hl := lv_entry ([.ref (a0), .int (v1), .int (v2)]) (n := 5) (Nat.le_of_ble_eq_true rfl)
  rw [lg_entry_eq]
  generalize (lg_sl ([.ref (a0), .int (v1), .int (v2)]) ++ List.replicate (5 - (lg_sl ([.ref (a0), .int (v1), .int (v2)])).length) Slot.unset).toArray = ls at hl ⊢
  have hl : lv_has ls 5 [(0, .ref (a0)), (1, .int (v1)), (2, .int (v2))] := hl
  have hn4 := hI.nst
  have hn1 := hI.nth
  have hn2 := hI.ntx
  refine lv_aload_n hx hb dX4_latest_0 rfl (lv_at hl 0 rfl) ?_
  refine lv_iload_n hx hb dX4_latest_1 rfl (lv_at hl 1 rfl) ?_
  refine w_cq (r_V (As := [.int (v1)]) (rest := []) hF hB (c_X4_findSite l env s0 X u (a0) (0) (ha0) (v1) hI hNb) cv_X4_findSite tw_1_112 ⟨rfl, rfl, by decide, by decide⟩ (hB.recv ha0 (cn_0 env u (0)) rfl) rfl hl.1 rfl (lv_room (by decide)) dX4_latest_2 ⟨Nat.le_of_ble_eq_true rfl, Nat.le_of_ble_eq_true rfl⟩) hB (fun r_1 u_3 H locs hq_2 hB => ?_)
  obtain ⟨rfl, rfl⟩ := hq_2
  rcases hj_5 : ix v1 (gN u.2.1 0 0 0) with _ | j_4
  · show W p l e _ s m _ below meth c H locs _ _ _ (F0 m _ ls [.null])
    refine lv_astore_nN (lv' := [(3, .null), (0, .ref (a0)), (1, .int (v1)), (2, .int (v2))]) hx hb dX4_latest_5 rfl hl (by decide) rfl (fun ls hl => ?_)
    refine lv_aload_n hx hb dX4_latest_6 rfl (lv_at hl 1 rfl) ?_
    refine lv_iload_n hx hb dX4_latest_7 rfl (lv_at hl 3 rfl) ?_
    refine w_cq (r_V (As := [.int (v2)]) (rest := []) hF hB (c_X4_findPlain l env s0 X u (a0) (0) (ha0) (v2) hI hNb) cv_X4_findPlain tw_2_56 ⟨rfl, rfl, by decide, by decide⟩ (hB.recv ha0 (cn_0 env u (0)) rfl) rfl hl.1 rfl (lv_room (by decide)) dX4_latest_8 ⟨Nat.le_of_ble_eq_true rfl, Nat.le_of_ble_eq_true rfl⟩) hB (fun r_7 u_9 H locs hq_8 hB => ?_)
    obtain ⟨rfl, rfl⟩ := hq_8
    rcases hj_11 : ix v2 (gN u.2.1 3 0 0) with _ | j_10
    · rw [show cPlain u v2 = none from by simp [cPlain, hj_11]]
      show W p l e _ s m _ below meth c H locs _ _ _ (F0 m _ ls [.null])
      refine lv_astoreN (lv' := [(4, .null), (3, .null), (0, .ref (a0)), (1, .int (v1)), (2, .int (v2))]) hx hb dX4_latest_11 hl (by decide) rfl (fun ls hl => ?_)
      refine lv_aload_nN hx hb dX4_latest_13 rfl (lv_at hl 1 rfl) ?_
      refine lv_ifnullN (tgt := 22) hx hb dX4_latest_14 (by decide) ?_
      refine lv_lconst (v := 0) hx hb dX4_latest_22 (by decide) ?_
      exact w_lret (v := 0) hF hr hlocks hB (⟨rfl, by simp [clatest, hj_5, hj_11]⟩) dX4_latest_23
    · obtain ⟨hjl_12, rfl⟩ := ix_some (by have := hNb 3 0 0; omega) hj_11
      rcases hs_13 : gB u.2.1 4 j_10 0 with _ | _
      · rw [show cPlain u (nI j_10) = some (sA u 4 j_10) from by simp [cPlain, hj_11, hs_13]]
        show W p l e _ s m _ below meth c H locs _ _ _ (F0 m _ ls [.ref (sA u 4 (j_10))])
        refine lv_astore (lv' := [(4, .ref (sA u 4 (j_10))), (3, .null), (0, .ref (a0)), (1, .int (v1)), (2, .int (nI (j_10)))]) hx hb dX4_latest_11 hl (by decide) rfl (fun ls hl => ?_)
        refine lv_aload_nN hx hb dX4_latest_13 rfl (lv_at hl 1 rfl) ?_
        refine lv_ifnullN (tgt := 22) hx hb dX4_latest_14 (by decide) ?_
        refine lv_lconst (v := 0) hx hb dX4_latest_22 (by decide) ?_
        exact w_lret (v := 0) hF hr hlocks hB (⟨rfl, by simp [clatest, hj_5, hj_11, hs_13]⟩) dX4_latest_23
      · rw [show cPlain u (nI j_10) = none from by simp [cPlain, hj_11, hs_13]]
        show W p l e _ s m _ below meth c H locs _ _ _ (F0 m _ ls [.null])
        refine lv_astoreN (lv' := [(4, .null), (3, .null), (0, .ref (a0)), (1, .int (v1)), (2, .int (nI (j_10)))]) hx hb dX4_latest_11 hl (by decide) rfl (fun ls hl => ?_)
        refine lv_aload_nN hx hb dX4_latest_13 rfl (lv_at hl 1 rfl) ?_
        refine lv_ifnullN (tgt := 22) hx hb dX4_latest_14 (by decide) ?_
        refine lv_lconst (v := 0) hx hb dX4_latest_22 (by decide) ?_
        exact w_lret (v := 0) hF hr hlocks hB (⟨rfl, by simp [clatest, hj_5, hj_11, hs_13]⟩) dX4_latest_23
  · obtain ⟨hjl_6, rfl⟩ := ix_some (by have := hNb 0 0 0; omega) hj_5
    show W p l e _ s m _ below meth c H locs _ _ _ (F0 m _ ls [.ref (sA u 5 (j_4))])
    refine lv_astore_n (lv' := [(3, .ref (sA u 5 (j_4))), (0, .ref (a0)), (1, .int (nI (j_4))), (2, .int (v2))]) hx hb dX4_latest_5 rfl hl (by decide) rfl (fun ls hl => ?_)
    refine lv_aload_n hx hb dX4_latest_6 rfl (lv_at hl 1 rfl) ?_
    refine lv_iload_n hx hb dX4_latest_7 rfl (lv_at hl 3 rfl) ?_
    refine w_cq (r_V (As := [.int (v2)]) (rest := []) hF hB (c_X4_findPlain l env s0 X u (a0) (0) (ha0) (v2) hI hNb) cv_X4_findPlain tw_2_56 ⟨rfl, rfl, by decide, by decide⟩ (hB.recv ha0 (cn_0 env u (0)) rfl) rfl hl.1 rfl (lv_room (by decide)) dX4_latest_8 ⟨Nat.le_of_ble_eq_true rfl, Nat.le_of_ble_eq_true rfl⟩) hB (fun r_14 u_16 H locs hq_15 hB => ?_)
    obtain ⟨rfl, rfl⟩ := hq_15
    rcases hj_18 : ix v2 (gN u.2.1 3 0 0) with _ | j_17
    · rw [show cPlain u v2 = none from by simp [cPlain, hj_18]]
      show W p l e _ s m _ below meth c H locs _ _ _ (F0 m _ ls [.null])
      refine lv_astoreN (lv' := [(4, .null), (3, .ref (sA u 5 (j_4))), (0, .ref (a0)), (1, .int (nI (j_4))), (2, .int (v2))]) hx hb dX4_latest_11 hl (by decide) rfl (fun ls hl => ?_)
      refine lv_aload_n hx hb dX4_latest_13 rfl (lv_at hl 1 rfl) ?_
      refine lv_ifnull hx hb dX4_latest_14 ?_
      refine lv_aloadN hx hb dX4_latest_17 (lv_at hl 0 rfl) ?_
      refine lv_ifnonnullN hx hb dX4_latest_19 ?_
      refine lv_lconst (v := 0) hx hb dX4_latest_22 (by decide) ?_
      exact w_lret (v := 0) hF hr hlocks hB (⟨rfl, by simp [clatest, hj_5, hj_18]⟩) dX4_latest_23
    · obtain ⟨hjl_19, rfl⟩ := ix_some (by have := hNb 3 0 0; omega) hj_18
      rcases hs_20 : gB u.2.1 4 j_17 0 with _ | _
      · rw [show cPlain u (nI j_17) = some (sA u 4 j_17) from by simp [cPlain, hj_18, hs_20]]
        show W p l e _ s m _ below meth c H locs _ _ _ (F0 m _ ls [.ref (sA u 4 (j_17))])
        refine lv_astore (lv' := [(4, .ref (sA u 4 (j_17))), (3, .ref (sA u 5 (j_4))), (0, .ref (a0)), (1, .int (nI (j_4))), (2, .int (nI (j_17)))]) hx hb dX4_latest_11 hl (by decide) rfl (fun ls hl => ?_)
        refine lv_aload_n hx hb dX4_latest_13 rfl (lv_at hl 1 rfl) ?_
        refine lv_ifnull hx hb dX4_latest_14 ?_
        refine lv_aload hx hb dX4_latest_17 (lv_at hl 0 rfl) ?_
        refine lv_ifnonnull (tgt := 24) hx hb dX4_latest_19 (by decide) ?_
        refine lv_aload_n hx hb dX4_latest_24 rfl (lv_at hl 1 rfl) ?_
        refine lv_aload hx hb dX4_latest_25 (lv_at hl 0 rfl) ?_
        refine lv_aload_n hx hb dX4_latest_27 rfl (lv_at hl 1 rfl) ?_
        refine w_getN (v := .ref (sA u 6 (j_4))) (fk := 1) hF hB ⟨(hI.k5 (by omega)), rfl⟩ (cn_5 env u (j_4)) rfl in_X1 (by decide) tw_1_67 rfl rfl dX4_latest_28 ?_
        refine w_cl (r_VN (As := [.ref (sA u 4 (j_17)), .ref (sA u 6 (j_4))]) (rest := []) hF hB (c_X1_valueOf l env s0 X u (sA u 5 (j_4)) (j_4) (⟨(hI.k5 (by omega)), rfl⟩) (sA u 4 (j_17)) (j_17) (⟨(hI.k4 hjl_19), rfl⟩) (sA u 6 (j_4)) (6) (j_4) (⟨(hI.k6 (by omega)), rfl⟩) hI hNb (by omega) (Or.inl rfl)) cv_X1_valueOf tw_2_64 ⟨rfl, rfl, by decide, by decide⟩ (hB.recv ⟨(hI.k5 (by omega)), rfl⟩ (cn_5 env u (j_4)) rfl) rfl hl.1 rfl (lv_room (by decide)) dX4_latest_31 ⟨Nat.le_of_ble_eq_true rfl, Nat.le_of_ble_eq_true rfl⟩) hB (fun r_21 u_23 H locs hq_22 hB => ?_)
        obtain ⟨rfl, rfl⟩ := hq_22
        exact w_lret (v := cValueOf u.2.1 (j_4) (j_17) 6 j_4) hF hr hlocks hB (⟨rfl, by simp [clatest, hj_5, hj_18, hs_20]⟩) dX4_latest_34
      · rw [show cPlain u (nI j_17) = none from by simp [cPlain, hj_18, hs_20]]
        show W p l e _ s m _ below meth c H locs _ _ _ (F0 m _ ls [.null])
        refine lv_astoreN (lv' := [(4, .null), (3, .ref (sA u 5 (j_4))), (0, .ref (a0)), (1, .int (nI (j_4))), (2, .int (nI (j_17)))]) hx hb dX4_latest_11 hl (by decide) rfl (fun ls hl => ?_)
        refine lv_aload_n hx hb dX4_latest_13 rfl (lv_at hl 1 rfl) ?_
        refine lv_ifnull hx hb dX4_latest_14 ?_
        refine lv_aloadN hx hb dX4_latest_17 (lv_at hl 0 rfl) ?_
        refine lv_ifnonnullN hx hb dX4_latest_19 ?_
        refine lv_lconst (v := 0) hx hb dX4_latest_22 (by decide) ?_
        exact w_lret (v := 0) hF hr hlocks hB (⟨rfl, by simp [clatest, hj_5, hj_18, hs_20]⟩) dX4_latest_23
set_option maxHeartbeats 4000000 in
set_option maxRecDepth 100000 in
theorem c_X4_counted (l : Launch) (env : Ev) (s0 : Nat) (X : va_W) (u : St) (a0 : Nat) (_xa0 : Nat) (ha0 : At u 0 (0) a0) (v1 : Int32) (v2 : Int32) (v3 : Int32) (hI : SI env u) (hNb : Nb u.2.1) : Met l yX4_counted [Cond.code yX4_counted cX4_counted 7 (some .long)] { frames := 5, cells := 0, slots := 0, locals := 107 } (va_Pc [.ref (a0), .int (v1), .int (v2), .int (v3)] (Pr env s0 X u)) (va_Ql (fun r u' => u = u' ∧ r = ccounted u.2.1 v1 v2 v3) (Po env s0 X) (fun q => s0 ≤ q)) 0 0 (fun q => s0 ≤ q) := by
  refine Met.ofW (cc := cX4_counted) (maxL := 7) (ret := (some .long)) (by decide) rfl ?_
  intro p e s m args below meth c s₁ B hml hv
  obtain ⟨rfl, hv⟩ := hv
  have hx := B.exec
  have hb := B.bytes
  have hr := B.returns
  have hts : ∀ ww ∈ TT, ww.before #[.ref (a0), .int (v1), .int (v2), .int (v3)] s = true := fun ww hw => hv.2.1 ww hw _
  have hown : s.vm.findClass RX4 = some m.cls := findClass_of_methodNamed B.named
  have hlocks := B.notSynchronized
  have hF : CallFix p m c cX4_counted 7 s #[.ref (a0), .int (v1), .int (v2), .int (v3)] TT RX4 := ⟨hx, hb, hml, hown, hts⟩
  have hB := Bd.entry hv
  have hl := lv_entry ([.ref (a0), .int (v1), .int (v2), .int (v3)]) (n := 7) (Nat.le_of_ble_eq_true rfl)
  rw [lg_entry_eq]
  generalize (lg_sl ([.ref (a0), .int (v1), .int (v2), .int (v3)]) ++ List.replicate (7 - (lg_sl ([.ref (a0), .int (v1), .int (v2), .int (v3)])).length) Slot.unset).toArray = ls at hl ⊢
  have hl : lv_has ls 7 [(0, .ref (a0)), (1, .int (v1)), (2, .int (v2)), (3, .int (v3))] := hl
  have hn4 := hI.nst
  have hn1 := hI.nth
  have hn2 := hI.ntx
  refine lv_aload_n hx hb dX4_counted_0 rfl (lv_at hl 0 rfl) ?_
  refine lv_iload_n hx hb dX4_counted_1 rfl (lv_at hl 1 rfl) ?_
  refine w_cq (r_V (As := [.int (v1)]) (rest := []) hF hB (c_X4_findTransaction l env s0 X u (a0) (0) (ha0) (v1) hI hNb) cv_X4_findTransaction tw_2_38 ⟨rfl, rfl, by decide, by decide⟩ (hB.recv ha0 (cn_0 env u (0)) rfl) rfl hl.1 rfl (lv_room (by decide)) dX4_counted_2 ⟨Nat.le_of_ble_eq_true rfl, Nat.le_of_ble_eq_true rfl⟩) hB (fun r_1 u_3 H locs hq_2 hB => ?_)
  obtain ⟨rfl, rfl⟩ := hq_2
  rcases hj_5 : ix v1 (gN u.2.1 3 1 0) with _ | j_4
  · show W p l e _ s m _ below meth c H locs _ _ _ (F0 m _ ls [.null])
    refine lv_astoreN (lv' := [(4, .null), (0, .ref (a0)), (1, .int (v1)), (2, .int (v2)), (3, .int (v3))]) hx hb dX4_counted_5 hl (by decide) rfl (fun ls hl => ?_)
    refine lv_aload_n hx hb dX4_counted_7 rfl (lv_at hl 1 rfl) ?_
    refine lv_iload_n hx hb dX4_counted_8 rfl (lv_at hl 3 rfl) ?_
    refine w_cq (r_V (As := [.int (v2)]) (rest := []) hF hB (c_X4_findSet l env s0 X u (a0) (0) (ha0) (v2) hI hNb) cv_X4_findSet tw_2_83 ⟨rfl, rfl, by decide, by decide⟩ (hB.recv ha0 (cn_0 env u (0)) rfl) rfl hl.1 rfl (lv_room (by decide)) dX4_counted_9 ⟨Nat.le_of_ble_eq_true rfl, Nat.le_of_ble_eq_true rfl⟩) hB (fun r_7 u_9 H locs hq_8 hB => ?_)
    obtain ⟨rfl, rfl⟩ := hq_8
    rcases hj_11 : ix v2 (gN u.2.1 3 0 0) with _ | j_10
    · rw [show cSet u v2 = none from by simp [cSet, hj_11]]
      show W p l e _ s m _ below meth c H locs _ _ _ (F0 m _ ls [.null])
      refine lv_astoreN (lv' := [(5, .null), (4, .null), (0, .ref (a0)), (1, .int (v1)), (2, .int (v2)), (3, .int (v3))]) hx hb dX4_counted_12 hl (by decide) rfl (fun ls hl => ?_)
      refine lv_aloadN hx hb dX4_counted_14 (lv_at hl 1 rfl) ?_
      refine lv_ifnullN (tgt := 31) hx hb dX4_counted_16 (by decide) ?_
      refine lv_lconst (v := 0) hx hb dX4_counted_31 (by decide) ?_
      exact w_lret (v := 0) hF hr hlocks hB (⟨rfl, by simp [ccounted, hj_5, hj_11]⟩) dX4_counted_32
    · obtain ⟨hjl_12, rfl⟩ := ix_some (by have := hNb 3 0 0; omega) hj_11
      rcases hs_13 : gB u.2.1 4 j_10 0 with _ | _
      · rw [show cSet u (nI j_10) = none from by simp [cSet, hj_11, hs_13]]
        show W p l e _ s m _ below meth c H locs _ _ _ (F0 m _ ls [.null])
        refine lv_astoreN (lv' := [(5, .null), (4, .null), (0, .ref (a0)), (1, .int (v1)), (2, .int (nI (j_10))), (3, .int (v3))]) hx hb dX4_counted_12 hl (by decide) rfl (fun ls hl => ?_)
        refine lv_aloadN hx hb dX4_counted_14 (lv_at hl 1 rfl) ?_
        refine lv_ifnullN (tgt := 31) hx hb dX4_counted_16 (by decide) ?_
        refine lv_lconst (v := 0) hx hb dX4_counted_31 (by decide) ?_
        exact w_lret (v := 0) hF hr hlocks hB (⟨rfl, by simp [ccounted, hj_5, hj_11, hs_13]⟩) dX4_counted_32
      · rw [show cSet u (nI j_10) = some (sA u 4 j_10) from by simp [cSet, hj_11, hs_13]]
        show W p l e _ s m _ below meth c H locs _ _ _ (F0 m _ ls [.ref (sA u 4 (j_10))])
        refine lv_astore (lv' := [(5, .ref (sA u 4 (j_10))), (4, .null), (0, .ref (a0)), (1, .int (v1)), (2, .int (nI (j_10))), (3, .int (v3))]) hx hb dX4_counted_12 hl (by decide) rfl (fun ls hl => ?_)
        refine lv_aloadN hx hb dX4_counted_14 (lv_at hl 1 rfl) ?_
        refine lv_ifnullN (tgt := 31) hx hb dX4_counted_16 (by decide) ?_
        refine lv_lconst (v := 0) hx hb dX4_counted_31 (by decide) ?_
        exact w_lret (v := 0) hF hr hlocks hB (⟨rfl, by simp [ccounted, hj_5, hj_11, hs_13]⟩) dX4_counted_32
  · obtain ⟨hjl_6, rfl⟩ := ix_some (by have := hNb 3 1 0; omega) hj_5
    show W p l e _ s m _ below meth c H locs _ _ _ (F0 m _ ls [.ref (sA u 8 (j_4))])
    refine lv_astore (lv' := [(4, .ref (sA u 8 (j_4))), (0, .ref (a0)), (1, .int (nI (j_4))), (2, .int (v2)), (3, .int (v3))]) hx hb dX4_counted_5 hl (by decide) rfl (fun ls hl => ?_)
    refine lv_aload_n hx hb dX4_counted_7 rfl (lv_at hl 1 rfl) ?_
    refine lv_iload_n hx hb dX4_counted_8 rfl (lv_at hl 3 rfl) ?_
    refine w_cq (r_V (As := [.int (v2)]) (rest := []) hF hB (c_X4_findSet l env s0 X u (a0) (0) (ha0) (v2) hI hNb) cv_X4_findSet tw_2_83 ⟨rfl, rfl, by decide, by decide⟩ (hB.recv ha0 (cn_0 env u (0)) rfl) rfl hl.1 rfl (lv_room (by decide)) dX4_counted_9 ⟨Nat.le_of_ble_eq_true rfl, Nat.le_of_ble_eq_true rfl⟩) hB (fun r_14 u_16 H locs hq_15 hB => ?_)
    obtain ⟨rfl, rfl⟩ := hq_15
    rcases hj_18 : ix v2 (gN u.2.1 3 0 0) with _ | j_17
    · rw [show cSet u v2 = none from by simp [cSet, hj_18]]
      show W p l e _ s m _ below meth c H locs _ _ _ (F0 m _ ls [.null])
      refine lv_astoreN (lv' := [(5, .null), (4, .ref (sA u 8 (j_4))), (0, .ref (a0)), (1, .int (nI (j_4))), (2, .int (v2)), (3, .int (v3))]) hx hb dX4_counted_12 hl (by decide) rfl (fun ls hl => ?_)
      refine lv_aload hx hb dX4_counted_14 (lv_at hl 1 rfl) ?_
      refine lv_ifnull hx hb dX4_counted_16 ?_
      refine lv_aloadN hx hb dX4_counted_19 (lv_at hl 0 rfl) ?_
      refine lv_ifnullN (tgt := 31) hx hb dX4_counted_21 (by decide) ?_
      refine lv_lconst (v := 0) hx hb dX4_counted_31 (by decide) ?_
      exact w_lret (v := 0) hF hr hlocks hB (⟨rfl, by simp [ccounted, hj_5, hj_18]⟩) dX4_counted_32
    · obtain ⟨hjl_19, rfl⟩ := ix_some (by have := hNb 3 0 0; omega) hj_18
      rcases hs_20 : gB u.2.1 4 j_17 0 with _ | _
      · rw [show cSet u (nI j_17) = none from by simp [cSet, hj_18, hs_20]]
        show W p l e _ s m _ below meth c H locs _ _ _ (F0 m _ ls [.null])
        refine lv_astoreN (lv' := [(5, .null), (4, .ref (sA u 8 (j_4))), (0, .ref (a0)), (1, .int (nI (j_4))), (2, .int (nI (j_17))), (3, .int (v3))]) hx hb dX4_counted_12 hl (by decide) rfl (fun ls hl => ?_)
        refine lv_aload hx hb dX4_counted_14 (lv_at hl 1 rfl) ?_
        refine lv_ifnull hx hb dX4_counted_16 ?_
        refine lv_aloadN hx hb dX4_counted_19 (lv_at hl 0 rfl) ?_
        refine lv_ifnullN (tgt := 31) hx hb dX4_counted_21 (by decide) ?_
        refine lv_lconst (v := 0) hx hb dX4_counted_31 (by decide) ?_
        exact w_lret (v := 0) hF hr hlocks hB (⟨rfl, by simp [ccounted, hj_5, hj_18, hs_20]⟩) dX4_counted_32
      · rw [show cSet u (nI j_17) = some (sA u 4 j_17) from by simp [cSet, hj_18, hs_20]]
        show W p l e _ s m _ below meth c H locs _ _ _ (F0 m _ ls [.ref (sA u 4 (j_17))])
        refine lv_astore (lv' := [(5, .ref (sA u 4 (j_17))), (4, .ref (sA u 8 (j_4))), (0, .ref (a0)), (1, .int (nI (j_4))), (2, .int (nI (j_17))), (3, .int (v3))]) hx hb dX4_counted_12 hl (by decide) rfl (fun ls hl => ?_)
        refine lv_aload hx hb dX4_counted_14 (lv_at hl 1 rfl) ?_
        refine lv_ifnull hx hb dX4_counted_16 ?_
        refine lv_aload hx hb dX4_counted_19 (lv_at hl 0 rfl) ?_
        refine lv_ifnull hx hb dX4_counted_21 ?_
        refine lv_iload_n hx hb dX4_counted_24 rfl (lv_at hl 5 rfl) ?_
        refine w_ci (r_S (As := [.int (v3)]) (rest := []) hF hB (c_X4_isElement l env s0 X u (v3) ) cs_X4_isElement tw_2_87 ⟨rfl, rfl, by decide, by decide⟩ rfl hl.1 rfl (lv_room (by decide)) dX4_counted_25 ⟨Nat.le_of_ble_eq_true rfl, Nat.le_of_ble_eq_true rfl⟩) hB (fun r_21 u_23 H locs hq_22 hB => ?_)
        obtain ⟨rfl, rfl⟩ := hq_22
        refine w_ifne_b (tgt := 33) hx hb dX4_counted_28 (by decide) (fun c_24 => ?_) (fun c_24 => ?_)
        · obtain ⟨j_25, hj_26⟩ := Option.isSome_iff_exists.mp c_24
          obtain ⟨hjl_27, rfl⟩ := ix_some (by decide) hj_26
          refine lv_aload hx hb dX4_counted_33 (lv_at hl 0 rfl) ?_
          refine lv_iload_n hx hb dX4_counted_35 rfl (lv_at hl 5 rfl) ?_
          refine w_ci (r_VN (As := [.int (nI (j_25))]) (rest := []) hF hB (c_X2_slotOf l env s0 X u (sA u 4 (j_17)) (j_17) (⟨(hI.k4 hjl_19), rfl⟩) (j_25) ) cv_X2_slotOf tw_2_90 ⟨rfl, rfl, by decide, by decide⟩ (hB.recv ⟨(hI.k4 hjl_19), rfl⟩ (cn_4 env u (j_17)) rfl) rfl hl.1 rfl (lv_room (by decide)) dX4_counted_36 ⟨Nat.le_of_ble_eq_true rfl, Nat.le_of_ble_eq_true rfl⟩) hB (fun r_28 u_30 H locs hq_29 hB => ?_)
          obtain ⟨rfl, rfl⟩ := hq_29
          refine lv_istore (lv' := [(6, .int (nI (j_17 * 8 + j_25))), (5, .ref (sA u 4 (j_17))), (4, .ref (sA u 8 (j_4))), (0, .ref (a0)), (1, .int (nI (j_4))), (2, .int (nI (j_17))), (3, .int (nI (j_25)))]) hx hb dX4_counted_39 hl (by decide) rfl (fun ls hl => ?_)
          refine lv_aload hx hb dX4_counted_41 (lv_at hl 2 rfl) ?_
          refine w_getN (v := .ref (sA u 12 (j_4))) (fk := 5) hF hB ⟨(hI.k8 hjl_6), rfl⟩ (cn_8 env u (j_4)) rfl in_X3 (by decide) tw_1_229 rfl rfl dX4_counted_43 ?_
          refine lv_iload hx hb dX4_counted_46 (lv_at hl 0 rfl) ?_
          refine w_lald (v := .long (gJ u.2.1 12 (j_4) (j_17 * 8 + j_25))) hF hB ⟨(hI.k12 (hI.k8 hjl_6)), rfl⟩ (cn_12 env u (j_4)) (by omega) rfl (by decide) dX4_counted_48 ?_
          refine lv_aload hx hb dX4_counted_49 (lv_at hl 2 rfl) ?_
          refine w_getN (v := .ref (sA u 5 (gN u.2.1 26 (j_4) 0))) (fk := 1) hF hB ⟨(hI.k8 hjl_6), rfl⟩ (cn_8 env u (j_4)) rfl in_X3 (by decide) tw_1_217 rfl rfl dX4_counted_51 ?_
          refine lv_iload hx hb dX4_counted_54 (lv_at hl 0 rfl) ?_
          refine lv_aload hx hb dX4_counted_56 (lv_at hl 2 rfl) ?_
          refine w_getN (v := .ref (sA u 9 (j_4))) (fk := 2) hF hB ⟨(hI.k8 hjl_6), rfl⟩ (cn_8 env u (j_4)) rfl in_X3 (by decide) tw_1_220 rfl rfl dX4_counted_58 ?_
          refine w_cl (r_VN (As := [.int (nI (j_17 * 8 + j_25)), .ref (sA u 9 (j_4))]) (rest := [.long (gJ u.2.1 12 (j_4) (j_17 * 8 + j_25))]) hF hB (c_X1_countOf l env s0 X u (sA u 5 (gN u.2.1 26 (j_4) 0)) (gN u.2.1 26 (j_4) 0) (⟨(hI.k5 (hI.tx (hI.k8 hjl_6)).2), rfl⟩) (j_17 * 8 + j_25) (sA u 9 (j_4)) (9) (j_4) (⟨(hI.k9 (hI.k8 hjl_6)), rfl⟩) hI hNb (hI.tx (hI.k8 hjl_6)).2 (Or.inr rfl) (by omega)) cv_X1_countOf tw_2_94 ⟨rfl, rfl, by decide, by decide⟩ (hB.recv ⟨(hI.k5 (hI.tx (hI.k8 hjl_6)).2), rfl⟩ (cn_5 env u (gN u.2.1 26 (j_4) 0)) rfl) rfl hl.1 rfl (lv_room (Nat.le_of_ble_eq_true rfl)) dX4_counted_61 ⟨Nat.le_of_ble_eq_true rfl, Nat.le_of_ble_eq_true rfl⟩) hB (fun r_31 u_33 H locs hq_32 hB => ?_)
          obtain ⟨rfl, rfl⟩ := hq_32
          refine lv_ladd hx hb dX4_counted_64 ?_
          exact w_lret (v := (gJ u.2.1 12 (j_4) (j_17 * 8 + j_25)) + (cCountOf u.2.1 (gN u.2.1 26 (j_4) 0) (j_17 * 8 + j_25) 9 j_4)) hF hr hlocks hB (⟨rfl, by simp [ccounted, hj_5, hj_18, hs_20, hj_26]⟩) dX4_counted_65
        · have hj_34 := Option.isSome_eq_false_iff.mp c_24
          rw [Option.isNone_iff_eq_none] at hj_34
          refine lv_lconst (v := 0) hx hb dX4_counted_31 (by decide) ?_
          exact w_lret (v := 0) hF hr hlocks hB (⟨rfl, by simp [ccounted, hj_5, hj_18, hs_20, hj_34]⟩) dX4_counted_32
set_option maxHeartbeats 4000000 in
set_option maxRecDepth 100000 in
theorem c_X4_sum (l : Launch) (env : Ev) (s0 : Nat) (X : va_W) (u : St) (a0 : Nat) (_xa0 : Nat) (ha0 : At u 0 (0) a0) (v1 : Int32) (v2 : Int32) (v3 : Int32) (hI : SI env u) (hNb : Nb u.2.1) : Met l yX4_sum [Cond.code yX4_sum cX4_sum 6 (some .long)] { frames := 5, cells := 0, slots := 0, locals := 107 } (va_Pc [.ref (a0), .int (v1), .int (v2), .int (v3)] (Pr env s0 X u)) (va_Ql (fun r u' => u = u' ∧ r = csum u.2.1 v1 v2 v3) (Po env s0 X) (fun q => s0 ≤ q)) 0 0 (fun q => s0 ≤ q) := by
  refine Met.ofW (cc := cX4_sum) (maxL := 6) (ret := (some .long)) (by decide) rfl ?_
  intro p e s m args below meth c s₁ B hml hv
  obtain ⟨rfl, hv⟩ := hv
  have hx := B.exec
  have hb := B.bytes
  have hr := B.returns
  have hts : ∀ ww ∈ TT, ww.before #[.ref (a0), .int (v1), .int (v2), .int (v3)] s = true := fun ww hw => hv.2.1 ww hw _
  have hown : s.vm.findClass RX4 = some m.cls := findClass_of_methodNamed B.named
  have hlocks := B.notSynchronized
  have hF : CallFix p m c cX4_sum 6 s #[.ref (a0), .int (v1), .int (v2), .int (v3)] TT RX4 := ⟨hx, hb, hml, hown, hts⟩
  have hB := Bd.entry hv
  have hl := lv_entry ([.ref (a0), .int (v1), .int (v2), .int (v3)]) (n := 6) (Nat.le_of_ble_eq_true rfl)
  rw [lg_entry_eq]
  generalize (lg_sl ([.ref (a0), .int (v1), .int (v2), .int (v3)]) ++ List.replicate (6 - (lg_sl ([.ref (a0), .int (v1), .int (v2), .int (v3)])).length) Slot.unset).toArray = ls at hl ⊢
  have hl : lv_has ls 6 [(0, .ref (a0)), (1, .int (v1)), (2, .int (v2)), (3, .int (v3))] := hl
  have hn4 := hI.nst
  have hn1 := hI.nth
  have hn2 := hI.ntx
  refine lv_aload_n hx hb dX4_sum_0 rfl (lv_at hl 0 rfl) ?_
  refine lv_iload_n hx hb dX4_sum_1 rfl (lv_at hl 1 rfl) ?_
  refine w_cq (r_V (As := [.int (v1)]) (rest := []) hF hB (c_X4_findSite l env s0 X u (a0) (0) (ha0) (v1) hI hNb) cv_X4_findSite tw_1_112 ⟨rfl, rfl, by decide, by decide⟩ (hB.recv ha0 (cn_0 env u (0)) rfl) rfl hl.1 rfl (lv_room (by decide)) dX4_sum_2 ⟨Nat.le_of_ble_eq_true rfl, Nat.le_of_ble_eq_true rfl⟩) hB (fun r_1 u_3 H locs hq_2 hB => ?_)
  obtain ⟨rfl, rfl⟩ := hq_2
  rcases hj_5 : ix v1 (gN u.2.1 0 0 0) with _ | j_4
  · show W p l e _ s m _ below meth c H locs _ _ _ (F0 m _ ls [.null])
    refine lv_astoreN (lv' := [(4, .null), (0, .ref (a0)), (1, .int (v1)), (2, .int (v2)), (3, .int (v3))]) hx hb dX4_sum_5 hl (by decide) rfl (fun ls hl => ?_)
    refine lv_aload_n hx hb dX4_sum_7 rfl (lv_at hl 1 rfl) ?_
    refine lv_iload_n hx hb dX4_sum_8 rfl (lv_at hl 3 rfl) ?_
    refine w_cq (r_V (As := [.int (v2)]) (rest := []) hF hB (c_X4_findSet l env s0 X u (a0) (0) (ha0) (v2) hI hNb) cv_X4_findSet tw_2_83 ⟨rfl, rfl, by decide, by decide⟩ (hB.recv ha0 (cn_0 env u (0)) rfl) rfl hl.1 rfl (lv_room (by decide)) dX4_sum_9 ⟨Nat.le_of_ble_eq_true rfl, Nat.le_of_ble_eq_true rfl⟩) hB (fun r_7 u_9 H locs hq_8 hB => ?_)
    obtain ⟨rfl, rfl⟩ := hq_8
    rcases hj_11 : ix v2 (gN u.2.1 3 0 0) with _ | j_10
    · rw [show cSet u v2 = none from by simp [cSet, hj_11]]
      show W p l e _ s m _ below meth c H locs _ _ _ (F0 m _ ls [.null])
      refine lv_astoreN (lv' := [(5, .null), (4, .null), (0, .ref (a0)), (1, .int (v1)), (2, .int (v2)), (3, .int (v3))]) hx hb dX4_sum_12 hl (by decide) rfl (fun ls hl => ?_)
      refine lv_aloadN hx hb dX4_sum_14 (lv_at hl 1 rfl) ?_
      refine lv_ifnullN (tgt := 31) hx hb dX4_sum_16 (by decide) ?_
      refine lv_lconst (v := 0) hx hb dX4_sum_31 (by decide) ?_
      exact w_lret (v := 0) hF hr hlocks hB (⟨rfl, by simp [csum, hj_5, hj_11]⟩) dX4_sum_32
    · obtain ⟨hjl_12, rfl⟩ := ix_some (by have := hNb 3 0 0; omega) hj_11
      rcases hs_13 : gB u.2.1 4 j_10 0 with _ | _
      · rw [show cSet u (nI j_10) = none from by simp [cSet, hj_11, hs_13]]
        show W p l e _ s m _ below meth c H locs _ _ _ (F0 m _ ls [.null])
        refine lv_astoreN (lv' := [(5, .null), (4, .null), (0, .ref (a0)), (1, .int (v1)), (2, .int (nI (j_10))), (3, .int (v3))]) hx hb dX4_sum_12 hl (by decide) rfl (fun ls hl => ?_)
        refine lv_aloadN hx hb dX4_sum_14 (lv_at hl 1 rfl) ?_
        refine lv_ifnullN (tgt := 31) hx hb dX4_sum_16 (by decide) ?_
        refine lv_lconst (v := 0) hx hb dX4_sum_31 (by decide) ?_
        exact w_lret (v := 0) hF hr hlocks hB (⟨rfl, by simp [csum, hj_5, hj_11, hs_13]⟩) dX4_sum_32
      · rw [show cSet u (nI j_10) = some (sA u 4 j_10) from by simp [cSet, hj_11, hs_13]]
        show W p l e _ s m _ below meth c H locs _ _ _ (F0 m _ ls [.ref (sA u 4 (j_10))])
        refine lv_astore (lv' := [(5, .ref (sA u 4 (j_10))), (4, .null), (0, .ref (a0)), (1, .int (v1)), (2, .int (nI (j_10))), (3, .int (v3))]) hx hb dX4_sum_12 hl (by decide) rfl (fun ls hl => ?_)
        refine lv_aloadN hx hb dX4_sum_14 (lv_at hl 1 rfl) ?_
        refine lv_ifnullN (tgt := 31) hx hb dX4_sum_16 (by decide) ?_
        refine lv_lconst (v := 0) hx hb dX4_sum_31 (by decide) ?_
        exact w_lret (v := 0) hF hr hlocks hB (⟨rfl, by simp [csum, hj_5, hj_11, hs_13]⟩) dX4_sum_32
  · obtain ⟨hjl_6, rfl⟩ := ix_some (by have := hNb 0 0 0; omega) hj_5
    show W p l e _ s m _ below meth c H locs _ _ _ (F0 m _ ls [.ref (sA u 5 (j_4))])
    refine lv_astore (lv' := [(4, .ref (sA u 5 (j_4))), (0, .ref (a0)), (1, .int (nI (j_4))), (2, .int (v2)), (3, .int (v3))]) hx hb dX4_sum_5 hl (by decide) rfl (fun ls hl => ?_)
    refine lv_aload_n hx hb dX4_sum_7 rfl (lv_at hl 1 rfl) ?_
    refine lv_iload_n hx hb dX4_sum_8 rfl (lv_at hl 3 rfl) ?_
    refine w_cq (r_V (As := [.int (v2)]) (rest := []) hF hB (c_X4_findSet l env s0 X u (a0) (0) (ha0) (v2) hI hNb) cv_X4_findSet tw_2_83 ⟨rfl, rfl, by decide, by decide⟩ (hB.recv ha0 (cn_0 env u (0)) rfl) rfl hl.1 rfl (lv_room (by decide)) dX4_sum_9 ⟨Nat.le_of_ble_eq_true rfl, Nat.le_of_ble_eq_true rfl⟩) hB (fun r_14 u_16 H locs hq_15 hB => ?_)
    obtain ⟨rfl, rfl⟩ := hq_15
    rcases hj_18 : ix v2 (gN u.2.1 3 0 0) with _ | j_17
    · rw [show cSet u v2 = none from by simp [cSet, hj_18]]
      show W p l e _ s m _ below meth c H locs _ _ _ (F0 m _ ls [.null])
      refine lv_astoreN (lv' := [(5, .null), (4, .ref (sA u 5 (j_4))), (0, .ref (a0)), (1, .int (nI (j_4))), (2, .int (v2)), (3, .int (v3))]) hx hb dX4_sum_12 hl (by decide) rfl (fun ls hl => ?_)
      refine lv_aload hx hb dX4_sum_14 (lv_at hl 1 rfl) ?_
      refine lv_ifnull hx hb dX4_sum_16 ?_
      refine lv_aloadN hx hb dX4_sum_19 (lv_at hl 0 rfl) ?_
      refine lv_ifnullN (tgt := 31) hx hb dX4_sum_21 (by decide) ?_
      refine lv_lconst (v := 0) hx hb dX4_sum_31 (by decide) ?_
      exact w_lret (v := 0) hF hr hlocks hB (⟨rfl, by simp [csum, hj_5, hj_18]⟩) dX4_sum_32
    · obtain ⟨hjl_19, rfl⟩ := ix_some (by have := hNb 3 0 0; omega) hj_18
      rcases hs_20 : gB u.2.1 4 j_17 0 with _ | _
      · rw [show cSet u (nI j_17) = none from by simp [cSet, hj_18, hs_20]]
        show W p l e _ s m _ below meth c H locs _ _ _ (F0 m _ ls [.null])
        refine lv_astoreN (lv' := [(5, .null), (4, .ref (sA u 5 (j_4))), (0, .ref (a0)), (1, .int (nI (j_4))), (2, .int (nI (j_17))), (3, .int (v3))]) hx hb dX4_sum_12 hl (by decide) rfl (fun ls hl => ?_)
        refine lv_aload hx hb dX4_sum_14 (lv_at hl 1 rfl) ?_
        refine lv_ifnull hx hb dX4_sum_16 ?_
        refine lv_aloadN hx hb dX4_sum_19 (lv_at hl 0 rfl) ?_
        refine lv_ifnullN (tgt := 31) hx hb dX4_sum_21 (by decide) ?_
        refine lv_lconst (v := 0) hx hb dX4_sum_31 (by decide) ?_
        exact w_lret (v := 0) hF hr hlocks hB (⟨rfl, by simp [csum, hj_5, hj_18, hs_20]⟩) dX4_sum_32
      · rw [show cSet u (nI j_17) = some (sA u 4 j_17) from by simp [cSet, hj_18, hs_20]]
        show W p l e _ s m _ below meth c H locs _ _ _ (F0 m _ ls [.ref (sA u 4 (j_17))])
        refine lv_astore (lv' := [(5, .ref (sA u 4 (j_17))), (4, .ref (sA u 5 (j_4))), (0, .ref (a0)), (1, .int (nI (j_4))), (2, .int (nI (j_17))), (3, .int (v3))]) hx hb dX4_sum_12 hl (by decide) rfl (fun ls hl => ?_)
        refine lv_aload hx hb dX4_sum_14 (lv_at hl 1 rfl) ?_
        refine lv_ifnull hx hb dX4_sum_16 ?_
        refine lv_aload hx hb dX4_sum_19 (lv_at hl 0 rfl) ?_
        refine lv_ifnull hx hb dX4_sum_21 ?_
        refine lv_iload_n hx hb dX4_sum_24 rfl (lv_at hl 5 rfl) ?_
        refine w_ci (r_S (As := [.int (v3)]) (rest := []) hF hB (c_X4_isElement l env s0 X u (v3) ) cs_X4_isElement tw_2_87 ⟨rfl, rfl, by decide, by decide⟩ rfl hl.1 rfl (lv_room (by decide)) dX4_sum_25 ⟨Nat.le_of_ble_eq_true rfl, Nat.le_of_ble_eq_true rfl⟩) hB (fun r_21 u_23 H locs hq_22 hB => ?_)
        obtain ⟨rfl, rfl⟩ := hq_22
        refine w_ifne_b (tgt := 33) hx hb dX4_sum_28 (by decide) (fun c_24 => ?_) (fun c_24 => ?_)
        · obtain ⟨j_25, hj_26⟩ := Option.isSome_iff_exists.mp c_24
          obtain ⟨hjl_27, rfl⟩ := ix_some (by decide) hj_26
          refine lv_aload hx hb dX4_sum_33 (lv_at hl 1 rfl) ?_
          refine lv_aload hx hb dX4_sum_35 (lv_at hl 0 rfl) ?_
          refine lv_iload_n hx hb dX4_sum_37 rfl (lv_at hl 5 rfl) ?_
          refine w_ci (r_VN (As := [.int (nI (j_25))]) (rest := [.ref (sA u 5 (j_4))]) hF hB (c_X2_slotOf l env s0 X u (sA u 4 (j_17)) (j_17) (⟨(hI.k4 hjl_19), rfl⟩) (j_25) ) cv_X2_slotOf tw_2_90 ⟨rfl, rfl, by decide, by decide⟩ (hB.recv ⟨(hI.k4 hjl_19), rfl⟩ (cn_4 env u (j_17)) rfl) rfl hl.1 rfl (lv_room (Nat.le_of_ble_eq_true rfl)) dX4_sum_38 ⟨Nat.le_of_ble_eq_true rfl, Nat.le_of_ble_eq_true rfl⟩) hB (fun r_28 u_30 H locs hq_29 hB => ?_)
          obtain ⟨rfl, rfl⟩ := hq_29
          refine lv_aload hx hb dX4_sum_41 (lv_at hl 1 rfl) ?_
          refine w_getN (v := .ref (sA u 6 (j_4))) (fk := 1) hF hB ⟨(hI.k5 (by omega)), rfl⟩ (cn_5 env u (j_4)) rfl in_X1 (by decide) tw_1_67 rfl rfl dX4_sum_43 ?_
          refine w_cl (r_VN (As := [.int (nI (j_17 * 8 + j_25)), .ref (sA u 6 (j_4))]) (rest := []) hF hB (c_X1_countOf l env s0 X u (sA u 5 (j_4)) (j_4) (⟨(hI.k5 (by omega)), rfl⟩) (j_17 * 8 + j_25) (sA u 6 (j_4)) (6) (j_4) (⟨(hI.k6 (by omega)), rfl⟩) hI hNb (by omega) (Or.inl rfl) (by omega)) cv_X1_countOf tw_2_94 ⟨rfl, rfl, by decide, by decide⟩ (hB.recv ⟨(hI.k5 (by omega)), rfl⟩ (cn_5 env u (j_4)) rfl) rfl hl.1 rfl (lv_room (by decide)) dX4_sum_46 ⟨Nat.le_of_ble_eq_true rfl, Nat.le_of_ble_eq_true rfl⟩) hB (fun r_31 u_33 H locs hq_32 hB => ?_)
          obtain ⟨rfl, rfl⟩ := hq_32
          exact w_lret (v := cCountOf u.2.1 (j_4) (j_17 * 8 + j_25) 6 j_4) hF hr hlocks hB (⟨rfl, by simp [csum, hj_5, hj_18, hs_20, hj_26]⟩) dX4_sum_49
        · have hj_34 := Option.isSome_eq_false_iff.mp c_24
          rw [Option.isNone_iff_eq_none] at hj_34
          refine lv_lconst (v := 0) hx hb dX4_sum_31 (by decide) ?_
          exact w_lret (v := 0) hF hr hlocks hB (⟨rfl, by simp [csum, hj_5, hj_18, hs_20, hj_34]⟩) dX4_sum_32
set_option maxHeartbeats 4000000 in
set_option maxRecDepth 100000 in
theorem c_X4_start (l : Launch) (env : Ev) (s0 : Nat) (X : va_W) (u : St) (a0 : Nat) (_xa0 : Nat) (ha0 : At u 0 (0) a0) (v1 : Int32) (v2 : Int32) (hI : SI env u) (hNb : Nb u.2.1) : Met l yX4_start [Cond.code yX4_start cX4_start 5 (some .int)] { frames := 4, cells := 0, slots := 0, locals := 85 } (va_Pc [.ref (a0), .int (v1), .int (v2)] (Pr env s0 X u)) (va_Qi (fun r u' => u = u' ∧ r = cstart u.2.1 v1 v2) (Po env s0 X) (fun q => s0 ≤ q)) 0 0 (fun q => s0 ≤ q) := by
  refine Met.ofW (cc := cX4_start) (maxL := 5) (ret := (some .int)) (by decide) rfl ?_
  intro p e s m args below meth c s₁ B hml hv
  obtain ⟨rfl, hv⟩ := hv
  have hx := B.exec
  have hb := B.bytes
  have hr := B.returns
  have hts : ∀ ww ∈ TT, ww.before #[.ref (a0), .int (v1), .int (v2)] s = true := fun ww hw => hv.2.1 ww hw _
  have hown : s.vm.findClass RX4 = some m.cls := findClass_of_methodNamed B.named
  have hlocks := B.notSynchronized
  have hF : CallFix p m c cX4_start 5 s #[.ref (a0), .int (v1), .int (v2)] TT RX4 := ⟨hx, hb, hml, hown, hts⟩
  have hB := Bd.entry hv
  have hl := lv_entry ([.ref (a0), .int (v1), .int (v2)]) (n := 5) (Nat.le_of_ble_eq_true rfl)
  rw [lg_entry_eq]
  generalize (lg_sl ([.ref (a0), .int (v1), .int (v2)]) ++ List.replicate (5 - (lg_sl ([.ref (a0), .int (v1), .int (v2)])).length) Slot.unset).toArray = ls at hl ⊢
  have hl : lv_has ls 5 [(0, .ref (a0)), (1, .int (v1)), (2, .int (v2))] := hl
  have hn4 := hI.nst
  have hn1 := hI.nth
  have hn2 := hI.ntx
  refine lv_aload_n hx hb dX4_start_0 rfl (lv_at hl 0 rfl) ?_
  refine lv_iload_n hx hb dX4_start_1 rfl (lv_at hl 1 rfl) ?_
  refine w_cq (r_V (As := [.int (v1)]) (rest := []) hF hB (c_X4_findTransaction l env s0 X u (a0) (0) (ha0) (v1) hI hNb) cv_X4_findTransaction tw_2_38 ⟨rfl, rfl, by decide, by decide⟩ (hB.recv ha0 (cn_0 env u (0)) rfl) rfl hl.1 rfl (lv_room (by decide)) dX4_start_2 ⟨Nat.le_of_ble_eq_true rfl, Nat.le_of_ble_eq_true rfl⟩) hB (fun r_1 u_3 H locs hq_2 hB => ?_)
  obtain ⟨rfl, rfl⟩ := hq_2
  rcases hj_5 : ix v1 (gN u.2.1 3 1 0) with _ | j_4
  · show W p l e _ s m _ below meth c H locs _ _ _ (F0 m _ ls [.null])
    refine lv_astore_nN (lv' := [(3, .null), (0, .ref (a0)), (1, .int (v1)), (2, .int (v2))]) hx hb dX4_start_5 rfl hl (by decide) rfl (fun ls hl => ?_)
    refine lv_aload_n hx hb dX4_start_6 rfl (lv_at hl 1 rfl) ?_
    refine lv_iload_n hx hb dX4_start_7 rfl (lv_at hl 3 rfl) ?_
    refine w_cq (r_V (As := [.int (v2)]) (rest := []) hF hB (c_X4_findSite l env s0 X u (a0) (0) (ha0) (v2) hI hNb) cv_X4_findSite tw_1_112 ⟨rfl, rfl, by decide, by decide⟩ (hB.recv ha0 (cn_0 env u (0)) rfl) rfl hl.1 rfl (lv_room (by decide)) dX4_start_8 ⟨Nat.le_of_ble_eq_true rfl, Nat.le_of_ble_eq_true rfl⟩) hB (fun r_7 u_9 H locs hq_8 hB => ?_)
    obtain ⟨rfl, rfl⟩ := hq_8
    rcases hj_11 : ix v2 (gN u.2.1 0 0 0) with _ | j_10
    · show W p l e _ s m _ below meth c H locs _ _ _ (F0 m _ ls [.null])
      refine lv_astoreN (lv' := [(4, .null), (3, .null), (0, .ref (a0)), (1, .int (v1)), (2, .int (v2))]) hx hb dX4_start_11 hl (by decide) rfl (fun ls hl => ?_)
      refine lv_aload_nN hx hb dX4_start_13 rfl (lv_at hl 1 rfl) ?_
      refine lv_ifnullN (tgt := 22) hx hb dX4_start_14 (by decide) ?_
      refine lv_iconst (v := -1) hx hb dX4_start_22 (by decide) ?_
      exact w_iret (v := -1) hF hr hlocks hB (⟨rfl, by simp [cstart, hj_5, hj_11]⟩) dX4_start_23
    · obtain ⟨hjl_12, rfl⟩ := ix_some (by have := hNb 0 0 0; omega) hj_11
      show W p l e _ s m _ below meth c H locs _ _ _ (F0 m _ ls [.ref (sA u 5 (j_10))])
      refine lv_astore (lv' := [(4, .ref (sA u 5 (j_10))), (3, .null), (0, .ref (a0)), (1, .int (v1)), (2, .int (nI (j_10)))]) hx hb dX4_start_11 hl (by decide) rfl (fun ls hl => ?_)
      refine lv_aload_nN hx hb dX4_start_13 rfl (lv_at hl 1 rfl) ?_
      refine lv_ifnullN (tgt := 22) hx hb dX4_start_14 (by decide) ?_
      refine lv_iconst (v := -1) hx hb dX4_start_22 (by decide) ?_
      exact w_iret (v := -1) hF hr hlocks hB (⟨rfl, by simp [cstart, hj_5, hj_11]⟩) dX4_start_23
  · obtain ⟨hjl_6, rfl⟩ := ix_some (by have := hNb 3 1 0; omega) hj_5
    show W p l e _ s m _ below meth c H locs _ _ _ (F0 m _ ls [.ref (sA u 8 (j_4))])
    refine lv_astore_n (lv' := [(3, .ref (sA u 8 (j_4))), (0, .ref (a0)), (1, .int (nI (j_4))), (2, .int (v2))]) hx hb dX4_start_5 rfl hl (by decide) rfl (fun ls hl => ?_)
    refine lv_aload_n hx hb dX4_start_6 rfl (lv_at hl 1 rfl) ?_
    refine lv_iload_n hx hb dX4_start_7 rfl (lv_at hl 3 rfl) ?_
    refine w_cq (r_V (As := [.int (v2)]) (rest := []) hF hB (c_X4_findSite l env s0 X u (a0) (0) (ha0) (v2) hI hNb) cv_X4_findSite tw_1_112 ⟨rfl, rfl, by decide, by decide⟩ (hB.recv ha0 (cn_0 env u (0)) rfl) rfl hl.1 rfl (lv_room (by decide)) dX4_start_8 ⟨Nat.le_of_ble_eq_true rfl, Nat.le_of_ble_eq_true rfl⟩) hB (fun r_13 u_15 H locs hq_14 hB => ?_)
    obtain ⟨rfl, rfl⟩ := hq_14
    rcases hj_17 : ix v2 (gN u.2.1 0 0 0) with _ | j_16
    · show W p l e _ s m _ below meth c H locs _ _ _ (F0 m _ ls [.null])
      refine lv_astoreN (lv' := [(4, .null), (3, .ref (sA u 8 (j_4))), (0, .ref (a0)), (1, .int (nI (j_4))), (2, .int (v2))]) hx hb dX4_start_11 hl (by decide) rfl (fun ls hl => ?_)
      refine lv_aload_n hx hb dX4_start_13 rfl (lv_at hl 1 rfl) ?_
      refine lv_ifnull hx hb dX4_start_14 ?_
      refine lv_aloadN hx hb dX4_start_17 (lv_at hl 0 rfl) ?_
      refine lv_ifnonnullN hx hb dX4_start_19 ?_
      refine lv_iconst (v := -1) hx hb dX4_start_22 (by decide) ?_
      exact w_iret (v := -1) hF hr hlocks hB (⟨rfl, by simp [cstart, hj_5, hj_17]⟩) dX4_start_23
    · obtain ⟨hjl_18, rfl⟩ := ix_some (by have := hNb 0 0 0; omega) hj_17
      show W p l e _ s m _ below meth c H locs _ _ _ (F0 m _ ls [.ref (sA u 5 (j_16))])
      refine lv_astore (lv' := [(4, .ref (sA u 5 (j_16))), (3, .ref (sA u 8 (j_4))), (0, .ref (a0)), (1, .int (nI (j_4))), (2, .int (nI (j_16)))]) hx hb dX4_start_11 hl (by decide) rfl (fun ls hl => ?_)
      refine lv_aload_n hx hb dX4_start_13 rfl (lv_at hl 1 rfl) ?_
      refine lv_ifnull hx hb dX4_start_14 ?_
      refine lv_aload hx hb dX4_start_17 (lv_at hl 0 rfl) ?_
      refine lv_ifnonnull (tgt := 24) hx hb dX4_start_19 (by decide) ?_
      refine lv_aload_n hx hb dX4_start_24 rfl (lv_at hl 1 rfl) ?_
      refine w_getN (v := .ref (sA u 9 (j_4))) (fk := 2) hF hB ⟨(hI.k8 hjl_6), rfl⟩ (cn_8 env u (j_4)) rfl in_X3 (by decide) tw_1_220 rfl rfl dX4_start_25 ?_
      refine lv_aload hx hb dX4_start_28 (lv_at hl 0 rfl) ?_
      refine w_getN (v := .int (nI (j_16))) (fk := 0) hF hB ⟨(hI.k5 (by omega)), rfl⟩ (cn_5 env u (j_16)) rfl in_X1 (by decide) tw_1_64 rfl rfl dX4_start_30 ?_
      refine w_iald (v := .int (nI (gN u.2.1 9 (j_4) (j_16)))) hF hB ⟨(hI.k9 (hI.k8 hjl_6)), rfl⟩ (cn_9 env u (j_4)) (by omega) rfl (by decide) dX4_start_33 ?_
      exact w_iret (v := nI (gN u.2.1 9 (j_4) (j_16))) hF hr hlocks hB (⟨rfl, by simp [cstart, hj_5, hj_17]⟩) dX4_start_34
set_option maxHeartbeats 4000000 in
set_option maxRecDepth 100000 in
theorem c_X4_had (l : Launch) (env : Ev) (s0 : Nat) (X : va_W) (u : St) (a0 : Nat) (_xa0 : Nat) (ha0 : At u 0 (0) a0) (v1 : Int32) (v2 : Int32) (hI : SI env u) (hNb : Nb u.2.1) : Met l yX4_had [Cond.code yX4_had cX4_had 5 (some .int)] { frames := 1, cells := 0, slots := 0, locals := 21 } (va_Pc [.ref (a0), .int (v1), .int (v2)] (Pr env s0 X u)) (va_Qi (fun r u' => u = u' ∧ r = chad u.2.1 v1 v2) (Po env s0 X) (fun q => s0 ≤ q)) 0 0 (fun q => s0 ≤ q) := by
  refine Met.ofW (cc := cX4_had) (maxL := 5) (ret := (some .int)) (by decide) rfl ?_
  intro p e s m args below meth c s₁ B hml hv
  obtain ⟨rfl, hv⟩ := hv
  have hx := B.exec
  have hb := B.bytes
  have hr := B.returns
  have hts : ∀ ww ∈ TT, ww.before #[.ref (a0), .int (v1), .int (v2)] s = true := fun ww hw => hv.2.1 ww hw _
  have hown : s.vm.findClass RX4 = some m.cls := findClass_of_methodNamed B.named
  have hlocks := B.notSynchronized
  have hF : CallFix p m c cX4_had 5 s #[.ref (a0), .int (v1), .int (v2)] TT RX4 := ⟨hx, hb, hml, hown, hts⟩
  have hB := Bd.entry hv
  have hl := lv_entry ([.ref (a0), .int (v1), .int (v2)]) (n := 5) (Nat.le_of_ble_eq_true rfl)
  rw [lg_entry_eq]
  generalize (lg_sl ([.ref (a0), .int (v1), .int (v2)]) ++ List.replicate (5 - (lg_sl ([.ref (a0), .int (v1), .int (v2)])).length) Slot.unset).toArray = ls at hl ⊢
  have hl : lv_has ls 5 [(0, .ref (a0)), (1, .int (v1)), (2, .int (v2))] := hl
  have hn4 := hI.nst
  have hn1 := hI.nth
  have hn2 := hI.ntx
  refine lv_aload_n hx hb dX4_had_0 rfl (lv_at hl 0 rfl) ?_
  refine lv_iload_n hx hb dX4_had_1 rfl (lv_at hl 1 rfl) ?_
  refine w_cq (r_V (As := [.int (v1)]) (rest := []) hF hB (c_X4_findSite l env s0 X u (a0) (0) (ha0) (v1) hI hNb) cv_X4_findSite tw_1_112 ⟨rfl, rfl, by decide, by decide⟩ (hB.recv ha0 (cn_0 env u (0)) rfl) rfl hl.1 rfl (lv_room (by decide)) dX4_had_2 ⟨Nat.le_of_ble_eq_true rfl, Nat.le_of_ble_eq_true rfl⟩) hB (fun r_1 u_3 H locs hq_2 hB => ?_)
  obtain ⟨rfl, rfl⟩ := hq_2
  rcases hj_5 : ix v1 (gN u.2.1 0 0 0) with _ | j_4
  · show W p l e _ s m _ below meth c H locs _ _ _ (F0 m _ ls [.null])
    refine lv_astore_nN (lv' := [(3, .null), (0, .ref (a0)), (1, .int (v1)), (2, .int (v2))]) hx hb dX4_had_5 rfl hl (by decide) rfl (fun ls hl => ?_)
    refine lv_aload_n hx hb dX4_had_6 rfl (lv_at hl 1 rfl) ?_
    refine lv_iload_n hx hb dX4_had_7 rfl (lv_at hl 3 rfl) ?_
    refine w_cq (r_V (As := [.int (v2)]) (rest := []) hF hB (c_X4_findSite l env s0 X u (a0) (0) (ha0) (v2) hI hNb) cv_X4_findSite tw_1_112 ⟨rfl, rfl, by decide, by decide⟩ (hB.recv ha0 (cn_0 env u (0)) rfl) rfl hl.1 rfl (lv_room (by decide)) dX4_had_8 ⟨Nat.le_of_ble_eq_true rfl, Nat.le_of_ble_eq_true rfl⟩) hB (fun r_7 u_9 H locs hq_8 hB => ?_)
    obtain ⟨rfl, rfl⟩ := hq_8
    rcases hj_11 : ix v2 (gN u.2.1 0 0 0) with _ | j_10
    · show W p l e _ s m _ below meth c H locs _ _ _ (F0 m _ ls [.null])
      refine lv_astoreN (lv' := [(4, .null), (3, .null), (0, .ref (a0)), (1, .int (v1)), (2, .int (v2))]) hx hb dX4_had_11 hl (by decide) rfl (fun ls hl => ?_)
      refine lv_aload_nN hx hb dX4_had_13 rfl (lv_at hl 1 rfl) ?_
      refine lv_ifnullN (tgt := 22) hx hb dX4_had_14 (by decide) ?_
      refine lv_iconst (v := -1) hx hb dX4_had_22 (by decide) ?_
      exact w_iret (v := -1) hF hr hlocks hB (⟨rfl, by simp [chad, hj_5, hj_11]⟩) dX4_had_23
    · obtain ⟨hjl_12, rfl⟩ := ix_some (by have := hNb 0 0 0; omega) hj_11
      show W p l e _ s m _ below meth c H locs _ _ _ (F0 m _ ls [.ref (sA u 5 (j_10))])
      refine lv_astore (lv' := [(4, .ref (sA u 5 (j_10))), (3, .null), (0, .ref (a0)), (1, .int (v1)), (2, .int (nI (j_10)))]) hx hb dX4_had_11 hl (by decide) rfl (fun ls hl => ?_)
      refine lv_aload_nN hx hb dX4_had_13 rfl (lv_at hl 1 rfl) ?_
      refine lv_ifnullN (tgt := 22) hx hb dX4_had_14 (by decide) ?_
      refine lv_iconst (v := -1) hx hb dX4_had_22 (by decide) ?_
      exact w_iret (v := -1) hF hr hlocks hB (⟨rfl, by simp [chad, hj_5, hj_11]⟩) dX4_had_23
  · obtain ⟨hjl_6, rfl⟩ := ix_some (by have := hNb 0 0 0; omega) hj_5
    show W p l e _ s m _ below meth c H locs _ _ _ (F0 m _ ls [.ref (sA u 5 (j_4))])
    refine lv_astore_n (lv' := [(3, .ref (sA u 5 (j_4))), (0, .ref (a0)), (1, .int (nI (j_4))), (2, .int (v2))]) hx hb dX4_had_5 rfl hl (by decide) rfl (fun ls hl => ?_)
    refine lv_aload_n hx hb dX4_had_6 rfl (lv_at hl 1 rfl) ?_
    refine lv_iload_n hx hb dX4_had_7 rfl (lv_at hl 3 rfl) ?_
    refine w_cq (r_V (As := [.int (v2)]) (rest := []) hF hB (c_X4_findSite l env s0 X u (a0) (0) (ha0) (v2) hI hNb) cv_X4_findSite tw_1_112 ⟨rfl, rfl, by decide, by decide⟩ (hB.recv ha0 (cn_0 env u (0)) rfl) rfl hl.1 rfl (lv_room (by decide)) dX4_had_8 ⟨Nat.le_of_ble_eq_true rfl, Nat.le_of_ble_eq_true rfl⟩) hB (fun r_13 u_15 H locs hq_14 hB => ?_)
    obtain ⟨rfl, rfl⟩ := hq_14
    rcases hj_17 : ix v2 (gN u.2.1 0 0 0) with _ | j_16
    · show W p l e _ s m _ below meth c H locs _ _ _ (F0 m _ ls [.null])
      refine lv_astoreN (lv' := [(4, .null), (3, .ref (sA u 5 (j_4))), (0, .ref (a0)), (1, .int (nI (j_4))), (2, .int (v2))]) hx hb dX4_had_11 hl (by decide) rfl (fun ls hl => ?_)
      refine lv_aload_n hx hb dX4_had_13 rfl (lv_at hl 1 rfl) ?_
      refine lv_ifnull hx hb dX4_had_14 ?_
      refine lv_aloadN hx hb dX4_had_17 (lv_at hl 0 rfl) ?_
      refine lv_ifnonnullN hx hb dX4_had_19 ?_
      refine lv_iconst (v := -1) hx hb dX4_had_22 (by decide) ?_
      exact w_iret (v := -1) hF hr hlocks hB (⟨rfl, by simp [chad, hj_5, hj_17]⟩) dX4_had_23
    · obtain ⟨hjl_18, rfl⟩ := ix_some (by have := hNb 0 0 0; omega) hj_17
      show W p l e _ s m _ below meth c H locs _ _ _ (F0 m _ ls [.ref (sA u 5 (j_16))])
      refine lv_astore (lv' := [(4, .ref (sA u 5 (j_16))), (3, .ref (sA u 5 (j_4))), (0, .ref (a0)), (1, .int (nI (j_4))), (2, .int (nI (j_16)))]) hx hb dX4_had_11 hl (by decide) rfl (fun ls hl => ?_)
      refine lv_aload_n hx hb dX4_had_13 rfl (lv_at hl 1 rfl) ?_
      refine lv_ifnull hx hb dX4_had_14 ?_
      refine lv_aload hx hb dX4_had_17 (lv_at hl 0 rfl) ?_
      refine lv_ifnonnull (tgt := 24) hx hb dX4_had_19 (by decide) ?_
      refine lv_aload_n hx hb dX4_had_24 rfl (lv_at hl 1 rfl) ?_
      refine w_getN (v := .ref (sA u 6 (j_4))) (fk := 1) hF hB ⟨(hI.k5 (by omega)), rfl⟩ (cn_5 env u (j_4)) rfl in_X1 (by decide) tw_1_67 rfl rfl dX4_had_25 ?_
      refine lv_aload hx hb dX4_had_28 (lv_at hl 0 rfl) ?_
      refine w_getN (v := .int (nI (j_16))) (fk := 0) hF hB ⟨(hI.k5 (by omega)), rfl⟩ (cn_5 env u (j_16)) rfl in_X1 (by decide) tw_1_64 rfl rfl dX4_had_30 ?_
      refine w_iald (v := .int (nI (gN u.2.1 6 (j_4) (j_16)))) hF hB ⟨(hI.k6 (by omega)), rfl⟩ (cn_6 env u (j_4)) (by omega) rfl (by decide) dX4_had_33 ?_
      exact w_iret (v := nI (gN u.2.1 6 (j_4) (j_16))) hF hr hlocks hB (⟨rfl, by simp [chad, hj_5, hj_17]⟩) dX4_had_34
set_option maxHeartbeats 4000000 in
set_option maxRecDepth 100000 in
theorem c_X4_locked (l : Launch) (env : Ev) (s0 : Nat) (X : va_W) (u : St) (a0 : Nat) (_xa0 : Nat) (ha0 : At u 0 (0) a0) (v1 : Int32) (v2 : Int32) (hI : SI env u) (hNb : Nb u.2.1) : Met l yX4_locked [Cond.code yX4_locked cX4_locked 5 (some .int)] { frames := 4, cells := 0, slots := 0, locals := 85 } (va_Pc [.ref (a0), .int (v1), .int (v2)] (Pr env s0 X u)) (va_Qi (fun r u' => u = u' ∧ r = clocked u.2.1 v1 v2) (Po env s0 X) (fun q => s0 ≤ q)) 0 0 (fun q => s0 ≤ q) := by
  refine Met.ofW (cc := cX4_locked) (maxL := 5) (ret := (some .int)) (by decide) rfl ?_
  intro p e s m args below meth c s₁ B hml hv
  obtain ⟨rfl, hv⟩ := hv
  have hx := B.exec
  have hb := B.bytes
  have hr := B.returns
  have hts : ∀ ww ∈ TT, ww.before #[.ref (a0), .int (v1), .int (v2)] s = true := fun ww hw => hv.2.1 ww hw _
  have hown : s.vm.findClass RX4 = some m.cls := findClass_of_methodNamed B.named
  have hlocks := B.notSynchronized
  have hF : CallFix p m c cX4_locked 5 s #[.ref (a0), .int (v1), .int (v2)] TT RX4 := ⟨hx, hb, hml, hown, hts⟩
  have hB := Bd.entry hv
  have hl := lv_entry ([.ref (a0), .int (v1), .int (v2)]) (n := 5) (Nat.le_of_ble_eq_true rfl)
  rw [lg_entry_eq]
  generalize (lg_sl ([.ref (a0), .int (v1), .int (v2)]) ++ List.replicate (5 - (lg_sl ([.ref (a0), .int (v1), .int (v2)])).length) Slot.unset).toArray = ls at hl ⊢
  have hl : lv_has ls 5 [(0, .ref (a0)), (1, .int (v1)), (2, .int (v2))] := hl
  have hn4 := hI.nst
  have hn1 := hI.nth
  have hn2 := hI.ntx
  refine lv_aload_n hx hb dX4_locked_0 rfl (lv_at hl 0 rfl) ?_
  refine lv_iload_n hx hb dX4_locked_1 rfl (lv_at hl 1 rfl) ?_
  refine w_cq (r_V (As := [.int (v1)]) (rest := []) hF hB (c_X4_findSite l env s0 X u (a0) (0) (ha0) (v1) hI hNb) cv_X4_findSite tw_1_112 ⟨rfl, rfl, by decide, by decide⟩ (hB.recv ha0 (cn_0 env u (0)) rfl) rfl hl.1 rfl (lv_room (by decide)) dX4_locked_2 ⟨Nat.le_of_ble_eq_true rfl, Nat.le_of_ble_eq_true rfl⟩) hB (fun r_1 u_3 H locs hq_2 hB => ?_)
  obtain ⟨rfl, rfl⟩ := hq_2
  rcases hj_5 : ix v1 (gN u.2.1 0 0 0) with _ | j_4
  · show W p l e _ s m _ below meth c H locs _ _ _ (F0 m _ ls [.null])
    refine lv_astore_nN (lv' := [(3, .null), (0, .ref (a0)), (1, .int (v1)), (2, .int (v2))]) hx hb dX4_locked_5 rfl hl (by decide) rfl (fun ls hl => ?_)
    refine lv_aload_n hx hb dX4_locked_6 rfl (lv_at hl 1 rfl) ?_
    refine lv_iload_n hx hb dX4_locked_7 rfl (lv_at hl 3 rfl) ?_
    refine w_cq (r_V (As := [.int (v2)]) (rest := []) hF hB (c_X4_findThing l env s0 X u (a0) (0) (ha0) (v2) hI hNb) cv_X4_findThing tw_2_60 ⟨rfl, rfl, by decide, by decide⟩ (hB.recv ha0 (cn_0 env u (0)) rfl) rfl hl.1 rfl (lv_room (by decide)) dX4_locked_8 ⟨Nat.le_of_ble_eq_true rfl, Nat.le_of_ble_eq_true rfl⟩) hB (fun r_7 u_9 H locs hq_8 hB => ?_)
    obtain ⟨rfl, rfl⟩ := hq_8
    rcases hj_11 : ix v2 (gN u.2.1 3 0 0) with _ | j_10
    · show W p l e _ s m _ below meth c H locs _ _ _ (F0 m _ ls [.null])
      refine lv_astoreN (lv' := [(4, .null), (3, .null), (0, .ref (a0)), (1, .int (v1)), (2, .int (v2))]) hx hb dX4_locked_11 hl (by decide) rfl (fun ls hl => ?_)
      refine lv_aload_nN hx hb dX4_locked_13 rfl (lv_at hl 1 rfl) ?_
      refine lv_ifnullN (tgt := 22) hx hb dX4_locked_14 (by decide) ?_
      refine lv_iconst (v := -1) hx hb dX4_locked_22 (by decide) ?_
      exact w_iret (v := -1) hF hr hlocks hB (⟨rfl, by simp [clocked, hj_5, hj_11]⟩) dX4_locked_23
    · obtain ⟨hjl_12, rfl⟩ := ix_some (by have := hNb 3 0 0; omega) hj_11
      show W p l e _ s m _ below meth c H locs _ _ _ (F0 m _ ls [.ref (sA u 4 (j_10))])
      refine lv_astore (lv' := [(4, .ref (sA u 4 (j_10))), (3, .null), (0, .ref (a0)), (1, .int (v1)), (2, .int (nI (j_10)))]) hx hb dX4_locked_11 hl (by decide) rfl (fun ls hl => ?_)
      refine lv_aload_nN hx hb dX4_locked_13 rfl (lv_at hl 1 rfl) ?_
      refine lv_ifnullN (tgt := 22) hx hb dX4_locked_14 (by decide) ?_
      refine lv_iconst (v := -1) hx hb dX4_locked_22 (by decide) ?_
      exact w_iret (v := -1) hF hr hlocks hB (⟨rfl, by simp [clocked, hj_5, hj_11]⟩) dX4_locked_23
  · obtain ⟨hjl_6, rfl⟩ := ix_some (by have := hNb 0 0 0; omega) hj_5
    show W p l e _ s m _ below meth c H locs _ _ _ (F0 m _ ls [.ref (sA u 5 (j_4))])
    refine lv_astore_n (lv' := [(3, .ref (sA u 5 (j_4))), (0, .ref (a0)), (1, .int (nI (j_4))), (2, .int (v2))]) hx hb dX4_locked_5 rfl hl (by decide) rfl (fun ls hl => ?_)
    refine lv_aload_n hx hb dX4_locked_6 rfl (lv_at hl 1 rfl) ?_
    refine lv_iload_n hx hb dX4_locked_7 rfl (lv_at hl 3 rfl) ?_
    refine w_cq (r_V (As := [.int (v2)]) (rest := []) hF hB (c_X4_findThing l env s0 X u (a0) (0) (ha0) (v2) hI hNb) cv_X4_findThing tw_2_60 ⟨rfl, rfl, by decide, by decide⟩ (hB.recv ha0 (cn_0 env u (0)) rfl) rfl hl.1 rfl (lv_room (by decide)) dX4_locked_8 ⟨Nat.le_of_ble_eq_true rfl, Nat.le_of_ble_eq_true rfl⟩) hB (fun r_13 u_15 H locs hq_14 hB => ?_)
    obtain ⟨rfl, rfl⟩ := hq_14
    rcases hj_17 : ix v2 (gN u.2.1 3 0 0) with _ | j_16
    · show W p l e _ s m _ below meth c H locs _ _ _ (F0 m _ ls [.null])
      refine lv_astoreN (lv' := [(4, .null), (3, .ref (sA u 5 (j_4))), (0, .ref (a0)), (1, .int (nI (j_4))), (2, .int (v2))]) hx hb dX4_locked_11 hl (by decide) rfl (fun ls hl => ?_)
      refine lv_aload_n hx hb dX4_locked_13 rfl (lv_at hl 1 rfl) ?_
      refine lv_ifnull hx hb dX4_locked_14 ?_
      refine lv_aloadN hx hb dX4_locked_17 (lv_at hl 0 rfl) ?_
      refine lv_ifnonnullN hx hb dX4_locked_19 ?_
      refine lv_iconst (v := -1) hx hb dX4_locked_22 (by decide) ?_
      exact w_iret (v := -1) hF hr hlocks hB (⟨rfl, by simp [clocked, hj_5, hj_17]⟩) dX4_locked_23
    · obtain ⟨hjl_18, rfl⟩ := ix_some (by have := hNb 3 0 0; omega) hj_17
      show W p l e _ s m _ below meth c H locs _ _ _ (F0 m _ ls [.ref (sA u 4 (j_16))])
      refine lv_astore (lv' := [(4, .ref (sA u 4 (j_16))), (3, .ref (sA u 5 (j_4))), (0, .ref (a0)), (1, .int (nI (j_4))), (2, .int (nI (j_16)))]) hx hb dX4_locked_11 hl (by decide) rfl (fun ls hl => ?_)
      refine lv_aload_n hx hb dX4_locked_13 rfl (lv_at hl 1 rfl) ?_
      refine lv_ifnull hx hb dX4_locked_14 ?_
      refine lv_aload hx hb dX4_locked_17 (lv_at hl 0 rfl) ?_
      refine lv_ifnonnull (tgt := 24) hx hb dX4_locked_19 (by decide) ?_
      refine lv_aload_n hx hb dX4_locked_24 rfl (lv_at hl 1 rfl) ?_
      refine w_getN (v := .ref (sA u 7 (j_4))) (fk := 3) hF hB ⟨(hI.k5 (by omega)), rfl⟩ (cn_5 env u (j_4)) rfl in_X1 (by decide) tw_1_70 rfl rfl dX4_locked_25 ?_
      refine lv_aload hx hb dX4_locked_28 (lv_at hl 0 rfl) ?_
      refine w_getN (v := .int (nI (j_16))) (fk := 0) hF hB ⟨(hI.k4 hjl_18), rfl⟩ (cn_4 env u (j_16)) rfl in_X2 (by decide) tw_1_129 rfl rfl dX4_locked_30 ?_
      refine w_iald (v := .int (gI u.2.1 7 (j_4) (j_16))) hF hB ⟨(hI.k7 (by omega)), rfl⟩ (cn_7 env u (j_4)) (by omega) rfl (by decide) dX4_locked_33 ?_
      exact w_iret (v := gI u.2.1 7 (j_4) (j_16)) hF hr hlocks hB (⟨rfl, by simp [clocked, hj_5, hj_17]⟩) dX4_locked_34
set_option maxHeartbeats 4000000 in
set_option maxRecDepth 100000 in
theorem c_X4_message (l : Launch) (env : Ev) (s0 : Nat) (X : va_W) (u : St) (a0 : Nat) (_xa0 : Nat) (ha0 : At u 0 (0) a0) (v1 : Int32) (v2 : Int32) (hI : SI env u) (hNb : Nb u.2.1) : Met l yX4_message [Cond.code yX4_message cX4_message 4 (some .int)] { frames := 4, cells := 0, slots := 0, locals := 85 } (va_Pc [.ref (a0), .int (v1), .int (v2)] (Pr env s0 X u)) (va_Qi (fun r u' => u = u' ∧ r = cmessage u.2.1 v1 v2) (Po env s0 X) (fun q => s0 ≤ q)) 0 0 (fun q => s0 ≤ q) := by
  refine Met.ofW (cc := cX4_message) (maxL := 4) (ret := (some .int)) (by decide) rfl ?_
  intro p e s m args below meth c s₁ B hml hv
  obtain ⟨rfl, hv⟩ := hv
  have hx := B.exec
  have hb := B.bytes
  have hr := B.returns
  have hts : ∀ ww ∈ TT, ww.before #[.ref (a0), .int (v1), .int (v2)] s = true := fun ww hw => hv.2.1 ww hw _
  have hown : s.vm.findClass RX4 = some m.cls := findClass_of_methodNamed B.named
  have hlocks := B.notSynchronized
  have hF : CallFix p m c cX4_message 4 s #[.ref (a0), .int (v1), .int (v2)] TT RX4 := ⟨hx, hb, hml, hown, hts⟩
  have hB := Bd.entry hv
  have hl := lv_entry ([.ref (a0), .int (v1), .int (v2)]) (n := 4) (Nat.le_of_ble_eq_true rfl)
  rw [lg_entry_eq]
  generalize (lg_sl ([.ref (a0), .int (v1), .int (v2)]) ++ List.replicate (4 - (lg_sl ([.ref (a0), .int (v1), .int (v2)])).length) Slot.unset).toArray = ls at hl ⊢
  have hl : lv_has ls 4 [(0, .ref (a0)), (1, .int (v1)), (2, .int (v2))] := hl
  have hn4 := hI.nst
  have hn1 := hI.nth
  have hn2 := hI.ntx
  refine lv_aload_n hx hb dX4_message_0 rfl (lv_at hl 0 rfl) ?_
  refine lv_iload_n hx hb dX4_message_1 rfl (lv_at hl 1 rfl) ?_
  refine w_cq (r_V (As := [.int (v1)]) (rest := []) hF hB (c_X4_findMessage l env s0 X u (a0) (0) (ha0) (v1) hI hNb) cv_X4_findMessage tw_2_201 ⟨rfl, rfl, by decide, by decide⟩ (hB.recv ha0 (cn_0 env u (0)) rfl) rfl hl.1 rfl (lv_room (by decide)) dX4_message_2 ⟨Nat.le_of_ble_eq_true rfl, Nat.le_of_ble_eq_true rfl⟩) hB (fun r_1 u_3 H locs hq_2 hB => ?_)
  obtain ⟨rfl, rfl⟩ := hq_2
  rcases hj_5 : ix v1 (gN u.2.1 3 2 0) with _ | j_4
  · show W p l e _ s m _ below meth c H locs _ _ _ (F0 m _ ls [.null])
    refine lv_astore_nN (lv' := [(3, .null), (0, .ref (a0)), (1, .int (v1)), (2, .int (v2))]) hx hb dX4_message_5 rfl hl (by decide) rfl (fun ls hl => ?_)
    refine lv_aload_nN hx hb dX4_message_6 rfl (lv_at hl 0 rfl) ?_
    refine lv_ifnonnullN hx hb dX4_message_7 ?_
    refine lv_iconst (v := -1) hx hb dX4_message_10 (by decide) ?_
    exact w_iret (v := -1) hF hr hlocks hB (⟨rfl, by first | (simp [cmessage, hj_5]; done) | (simp [cmessage, hj_5]; rfl) | (simp [cmessage, hj_5] <;> omega) | (simp [cmessage, hj_5]; exact congrArg b2i (by simp [hj_5] <;> omega))⟩) dX4_message_11
  · obtain ⟨hjl_6, rfl⟩ := ix_some (by have := hNb 3 2 0; omega) hj_5
    show W p l e _ s m _ below meth c H locs _ _ _ (F0 m _ ls [.ref (sA u 14 (gN u.2.1 31 (0) (j_4)))])
    refine lv_astore_n (lv' := [(3, .ref (sA u 14 (gN u.2.1 31 (0) (j_4)))), (0, .ref (a0)), (1, .int (nI (j_4))), (2, .int (v2))]) hx hb dX4_message_5 rfl hl (by decide) rfl (fun ls hl => ?_)
    refine lv_aload_n hx hb dX4_message_6 rfl (lv_at hl 0 rfl) ?_
    refine lv_ifnonnull (tgt := 12) hx hb dX4_message_7 (by decide) ?_
    refine lv_iload_n hx hb dX4_message_12 rfl (lv_at hl 3 rfl) ?_
    rcases hx_hj_7 : ix v2 5 with _ | j_8
    · refine lv_tableOut (tgt := 85) hx hb dX4_message_13 (sw_out (n := 5) rfl (by decide) hx_hj_7) (by decide) ?_
      refine lv_iconst (v := -1) hx hb dX4_message_85 (by decide) ?_
      exact w_iret (v := -1) hF hr hlocks hB (⟨rfl, by first | (simp [cmessage, hj_5, hx_hj_7]; done) | (simp [cmessage, hj_5, hx_hj_7]; rfl) | (simp [cmessage, hj_5, hx_hj_7] <;> omega) | (simp [cmessage, hj_5, hx_hj_7]; exact congrArg b2i (by simp [hj_5, hx_hj_7] <;> omega))⟩) dX4_message_86
    · obtain ⟨hjl_9, rfl⟩ := ix_some (by decide) hx_hj_7
      by_cases c_10 : j_8 = 0
      · refine lv_tableIn (tgt := 48) hx hb dX4_message_13 (by rw [c_10]; decide) (by rw [c_10]; decide) (by rw [c_10]; rfl) (by decide) ?_
        refine lv_aload_n hx hb dX4_message_48 rfl (lv_at hl 0 rfl) ?_
        refine w_getN (v := .int (nI (gN u.2.1 21 (gN u.2.1 31 (0) (j_4)) (0)))) (fk := 0) hF hB ⟨(hI.k14 hjl_6), rfl⟩ (cn_14 env u (gN u.2.1 31 (0) (j_4))) rfl in_X0 (by decide) tw_2_156 rfl rfl dX4_message_49 ?_
        exact w_iret (v := nI (gN u.2.1 21 (gN u.2.1 31 (0) (j_4)) (0))) hF hr hlocks hB (⟨rfl, by first | (simp [cmessage, hj_5, hx_hj_7, c_10]; done) | (simp [cmessage, hj_5, hx_hj_7, c_10]; rfl) | (simp [cmessage, hj_5, hx_hj_7, c_10] <;> omega) | (simp [cmessage, hj_5, hx_hj_7, c_10]; exact congrArg b2i (by simp [hj_5, hx_hj_7, c_10] <;> omega))⟩) dX4_message_52
      by_cases c_11 : j_8 = 1
      · refine lv_tableIn (tgt := 53) hx hb dX4_message_13 (by rw [c_11]; decide) (by rw [c_11]; decide) (by rw [c_11]; rfl) (by decide) ?_
        refine lv_aload_n hx hb dX4_message_53 rfl (lv_at hl 0 rfl) ?_
        refine w_getN (v := .ref (sA u 5 (gN u.2.1 23 (gN u.2.1 31 (0) (j_4)) 0))) (fk := 2) hF hB ⟨(hI.k14 hjl_6), rfl⟩ (cn_14 env u (gN u.2.1 31 (0) (j_4))) rfl in_X0 (by decide) tw_2_160 rfl rfl dX4_message_54 ?_
        refine w_getN (v := .int (nI (gN u.2.1 23 (gN u.2.1 31 (0) (j_4)) 0))) (fk := 0) hF hB ⟨(hI.k5 (hI.ms (hI.k14 hjl_6)).2.1), rfl⟩ (cn_5 env u (gN u.2.1 23 (gN u.2.1 31 (0) (j_4)) 0)) rfl in_X1 (by decide) tw_1_64 rfl rfl dX4_message_57 ?_
        exact w_iret (v := nI (gN u.2.1 23 (gN u.2.1 31 (0) (j_4)) 0)) hF hr hlocks hB (⟨rfl, by first | (simp [cmessage, hj_5, hx_hj_7, c_10, c_11]; done) | (simp [cmessage, hj_5, hx_hj_7, c_10, c_11]; rfl) | (simp [cmessage, hj_5, hx_hj_7, c_10, c_11] <;> omega) | (simp [cmessage, hj_5, hx_hj_7, c_10, c_11]; exact congrArg b2i (by simp [hj_5, hx_hj_7, c_10, c_11] <;> omega))⟩) dX4_message_60
      by_cases c_12 : j_8 = 2
      · refine lv_tableIn (tgt := 61) hx hb dX4_message_13 (by rw [c_12]; decide) (by rw [c_12]; decide) (by rw [c_12]; rfl) (by decide) ?_
        refine lv_aload_n hx hb dX4_message_61 rfl (lv_at hl 0 rfl) ?_
        refine w_getN (v := .ref (sA u 5 (gN u.2.1 22 (gN u.2.1 31 (0) (j_4)) 0))) (fk := 1) hF hB ⟨(hI.k14 hjl_6), rfl⟩ (cn_14 env u (gN u.2.1 31 (0) (j_4))) rfl in_X0 (by decide) tw_2_158 rfl rfl dX4_message_62 ?_
        refine w_getN (v := .int (nI (gN u.2.1 22 (gN u.2.1 31 (0) (j_4)) 0))) (fk := 0) hF hB ⟨(hI.k5 (hI.ms (hI.k14 hjl_6)).1), rfl⟩ (cn_5 env u (gN u.2.1 22 (gN u.2.1 31 (0) (j_4)) 0)) rfl in_X1 (by decide) tw_1_64 rfl rfl dX4_message_65 ?_
        exact w_iret (v := nI (gN u.2.1 22 (gN u.2.1 31 (0) (j_4)) 0)) hF hr hlocks hB (⟨rfl, by first | (simp [cmessage, hj_5, hx_hj_7, c_10, c_11, c_12]; done) | (simp [cmessage, hj_5, hx_hj_7, c_10, c_11, c_12]; rfl) | (simp [cmessage, hj_5, hx_hj_7, c_10, c_11, c_12] <;> omega) | (simp [cmessage, hj_5, hx_hj_7, c_10, c_11, c_12]; exact congrArg b2i (by simp [hj_5, hx_hj_7, c_10, c_11, c_12] <;> omega))⟩) dX4_message_68
      by_cases c_13 : j_8 = 3
      · refine lv_tableIn (tgt := 69) hx hb dX4_message_13 (by rw [c_13]; decide) (by rw [c_13]; decide) (by rw [c_13]; rfl) (by decide) ?_
        refine lv_aload_n hx hb dX4_message_69 rfl (lv_at hl 0 rfl) ?_
        refine w_getN (v := .ref (sA u 8 (gN u.2.1 24 (gN u.2.1 31 (0) (j_4)) 0))) (fk := 3) hF hB ⟨(hI.k14 hjl_6), rfl⟩ (cn_14 env u (gN u.2.1 31 (0) (j_4))) rfl in_X0 (by decide) tw_2_162 rfl rfl dX4_message_70 ?_
        refine w_getN (v := .int (nI (gN u.2.1 24 (gN u.2.1 31 (0) (j_4)) 0))) (fk := 0) hF hB ⟨(hI.k8 (hI.ms (hI.k14 hjl_6)).2.2), rfl⟩ (cn_8 env u (gN u.2.1 24 (gN u.2.1 31 (0) (j_4)) 0)) rfl in_X3 (by decide) tw_1_214 rfl rfl dX4_message_73 ?_
        exact w_iret (v := nI (gN u.2.1 24 (gN u.2.1 31 (0) (j_4)) 0)) hF hr hlocks hB (⟨rfl, by first | (simp [cmessage, hj_5, hx_hj_7, c_10, c_11, c_12, c_13]; done) | (simp [cmessage, hj_5, hx_hj_7, c_10, c_11, c_12, c_13]; rfl) | (simp [cmessage, hj_5, hx_hj_7, c_10, c_11, c_12, c_13] <;> omega) | (simp [cmessage, hj_5, hx_hj_7, c_10, c_11, c_12, c_13]; exact congrArg b2i (by simp [hj_5, hx_hj_7, c_10, c_11, c_12, c_13] <;> omega))⟩) dX4_message_76
      by_cases c_14 : j_8 = 4
      · refine lv_tableIn (tgt := 77) hx hb dX4_message_13 (by rw [c_14]; decide) (by rw [c_14]; decide) (by rw [c_14]; rfl) (by decide) ?_
        refine lv_aload_n hx hb dX4_message_77 rfl (lv_at hl 0 rfl) ?_
        refine w_ci (r_VN (As := []) (rest := []) hF hB (c_X0_canCome l env s0 X u (sA u 14 (gN u.2.1 31 (0) (j_4))) (gN u.2.1 31 (0) (j_4)) (⟨(hI.k14 hjl_6), rfl⟩) hI hNb) cv_X0_canCome tw_2_205 ⟨rfl, rfl, by decide, by decide⟩ (hB.recv ⟨(hI.k14 hjl_6), rfl⟩ (cn_14 env u (gN u.2.1 31 (0) (j_4))) rfl) rfl hl.1 rfl (lv_room (by decide)) dX4_message_78 ⟨Nat.le_of_ble_eq_true rfl, Nat.le_of_ble_eq_true rfl⟩) hB (fun r_15 u_17 H locs hq_16 hB => ?_)
        obtain ⟨rfl, rfl⟩ := hq_16
        refine w_ci (r_S (As := [.int (b2i (cCanCome u.2.1 (gN u.2.1 31 (0) (j_4))))]) (rest := []) hF hB (c_X4_oneIf l env s0 X u (cCanCome u.2.1 (gN u.2.1 31 (0) (j_4))) ) cs_X4_oneIf tw_3_19 ⟨rfl, rfl, by decide, by decide⟩ rfl hl.1 rfl (lv_room (by decide)) dX4_message_81 ⟨Nat.le_of_ble_eq_true rfl, Nat.le_of_ble_eq_true rfl⟩) hB (fun r_18 u_20 H locs hq_19 hB => ?_)
        obtain ⟨rfl, rfl⟩ := hq_19
        exact w_iret (v := b2i (cCanCome u.2.1 (gN u.2.1 31 (0) (j_4)))) hF hr hlocks hB (⟨rfl, by first | (simp [cmessage, hj_5, hx_hj_7, c_10, c_11, c_12, c_13, c_14]; done) | (simp [cmessage, hj_5, hx_hj_7, c_10, c_11, c_12, c_13, c_14]; rfl) | (simp [cmessage, hj_5, hx_hj_7, c_10, c_11, c_12, c_13, c_14] <;> omega) | (simp [cmessage, hj_5, hx_hj_7, c_10, c_11, c_12, c_13, c_14]; exact congrArg b2i (by simp [hj_5, hx_hj_7, c_10, c_11, c_12, c_13, c_14] <;> omega))⟩) dX4_message_84
      omega
set_option maxHeartbeats 4000000 in
set_option maxRecDepth 100000 in
theorem c_X4_told (l : Launch) (env : Ev) (s0 : Nat) (X : va_W) (u : St) (a0 : Nat) (_xa0 : Nat) (ha0 : At u 0 (0) a0) (v1 : Int32) (v2 : Int32) (hI : SI env u) (hNb : Nb u.2.1) (hn : 1 ≤ gN u.2.1 0 0 0) : Met l yX4_told [Cond.code yX4_told cX4_told 4 (some .int)] { frames := 4, cells := 0, slots := 0, locals := 85 } (va_Pc [.ref (a0), .int (v1), .int (v2)] (Pr env s0 X u)) (va_Qi (fun r u' => u = u' ∧ r = ctold u.2.1 v1 v2) (Po env s0 X) (fun q => s0 ≤ q)) 0 0 (fun q => s0 ≤ q) := by
  refine Met.ofW (cc := cX4_told) (maxL := 4) (ret := (some .int)) (by decide) rfl ?_
  intro p e s m args below meth c s₁ B hml hv
  obtain ⟨rfl, hv⟩ := hv
  have hx := B.exec
  have hb := B.bytes
  have hr := B.returns
  have hts : ∀ ww ∈ TT, ww.before #[.ref (a0), .int (v1), .int (v2)] s = true := fun ww hw => hv.2.1 ww hw _
  have hown : s.vm.findClass RX4 = some m.cls := findClass_of_methodNamed B.named
  have hlocks := B.notSynchronized
  have hF : CallFix p m c cX4_told 4 s #[.ref (a0), .int (v1), .int (v2)] TT RX4 := ⟨hx, hb, hml, hown, hts⟩
  have hB := Bd.entry hv
  have hl := lv_entry ([.ref (a0), .int (v1), .int (v2)]) (n := 4) (Nat.le_of_ble_eq_true rfl)
  rw [lg_entry_eq]
  generalize (lg_sl ([.ref (a0), .int (v1), .int (v2)]) ++ List.replicate (4 - (lg_sl ([.ref (a0), .int (v1), .int (v2)])).length) Slot.unset).toArray = ls at hl ⊢
  have hl : lv_has ls 4 [(0, .ref (a0)), (1, .int (v1)), (2, .int (v2))] := hl
  have hn4 := hI.nst
  have hn1 := hI.nth
  have hn2 := hI.ntx
  refine lv_aload_n hx hb dX4_told_0 rfl (lv_at hl 0 rfl) ?_
  refine lv_iload_n hx hb dX4_told_1 rfl (lv_at hl 1 rfl) ?_
  refine w_cq (r_V (As := [.int (v1)]) (rest := []) hF hB (c_X4_findTransaction l env s0 X u (a0) (0) (ha0) (v1) hI hNb) cv_X4_findTransaction tw_2_38 ⟨rfl, rfl, by decide, by decide⟩ (hB.recv ha0 (cn_0 env u (0)) rfl) rfl hl.1 rfl (lv_room (by decide)) dX4_told_2 ⟨Nat.le_of_ble_eq_true rfl, Nat.le_of_ble_eq_true rfl⟩) hB (fun r_1 u_3 H locs hq_2 hB => ?_)
  obtain ⟨rfl, rfl⟩ := hq_2
  rcases hj_5 : ix v1 (gN u.2.1 3 1 0) with _ | j_4
  · show W p l e _ s m _ below meth c H locs _ _ _ (F0 m _ ls [.null])
    refine lv_astore_nN (lv' := [(3, .null), (0, .ref (a0)), (1, .int (v1)), (2, .int (v2))]) hx hb dX4_told_5 rfl hl (by decide) rfl (fun ls hl => ?_)
    refine lv_aload_nN hx hb dX4_told_6 rfl (lv_at hl 0 rfl) ?_
    refine lv_ifnonnullN hx hb dX4_told_7 ?_
    refine lv_iconst (v := -1) hx hb dX4_told_10 (by decide) ?_
    exact w_iret (v := -1) hF hr hlocks hB (⟨rfl, by first | (simp [ctold, hj_5]; done) | (simp [ctold, hj_5]; rfl) | (simp [ctold, hj_5] <;> omega) | (simp [ctold, hj_5]; exact congrArg b2i (by simp [hj_5] <;> omega))⟩) dX4_told_11
  · obtain ⟨hjl_6, rfl⟩ := ix_some (by have := hNb 3 1 0; omega) hj_5
    show W p l e _ s m _ below meth c H locs _ _ _ (F0 m _ ls [.ref (sA u 8 (j_4))])
    refine lv_astore_n (lv' := [(3, .ref (sA u 8 (j_4))), (0, .ref (a0)), (1, .int (nI (j_4))), (2, .int (v2))]) hx hb dX4_told_5 rfl hl (by decide) rfl (fun ls hl => ?_)
    refine lv_aload_n hx hb dX4_told_6 rfl (lv_at hl 0 rfl) ?_
    refine lv_ifnonnull (tgt := 12) hx hb dX4_told_7 (by decide) ?_
    refine lv_iload_n hx hb dX4_told_12 rfl (lv_at hl 3 rfl) ?_
    rcases hx_hj_7 : ix v2 9 with _ | j_8
    · refine lv_tableOut (tgt := 120) hx hb dX4_told_13 (sw_out (n := 9) rfl (by decide) hx_hj_7) (by decide) ?_
      refine lv_iconst (v := -1) hx hb dX4_told_120 (by decide) ?_
      exact w_iret (v := -1) hF hr hlocks hB (⟨rfl, by first | (simp [ctold, hj_5, hx_hj_7]; done) | (simp [ctold, hj_5, hx_hj_7]; rfl) | (simp [ctold, hj_5, hx_hj_7] <;> omega) | (simp [ctold, hj_5, hx_hj_7]; exact congrArg b2i (by simp [hj_5, hx_hj_7] <;> omega))⟩) dX4_told_121
    · obtain ⟨hjl_9, rfl⟩ := ix_some (by decide) hx_hj_7
      by_cases c_10 : j_8 = 0
      · refine lv_tableIn (tgt := 64) hx hb dX4_told_13 (by rw [c_10]; decide) (by rw [c_10]; decide) (by rw [c_10]; rfl) (by decide) ?_
        refine lv_aload_n hx hb dX4_told_64 rfl (lv_at hl 0 rfl) ?_
        refine w_getN (v := .int (nI (gN u.2.1 16 (j_4) (0)))) (fk := 9) hF hB ⟨(hI.k8 hjl_6), rfl⟩ (cn_8 env u (j_4)) rfl in_X3 (by decide) tw_1_236 rfl rfl dX4_told_65 ?_
        exact w_iret (v := nI (gN u.2.1 16 (j_4) (0))) hF hr hlocks hB (⟨rfl, by first | (simp [ctold, hj_5, hx_hj_7, c_10]; done) | (simp [ctold, hj_5, hx_hj_7, c_10]; rfl) | (simp [ctold, hj_5, hx_hj_7, c_10] <;> omega) | (simp [ctold, hj_5, hx_hj_7, c_10]; exact congrArg b2i (by simp [hj_5, hx_hj_7, c_10] <;> omega))⟩) dX4_told_68
      by_cases c_11 : j_8 = 1
      · refine lv_tableIn (tgt := 69) hx hb dX4_told_13 (by rw [c_11]; decide) (by rw [c_11]; decide) (by rw [c_11]; rfl) (by decide) ?_
        refine lv_aload_n hx hb dX4_told_69 rfl (lv_at hl 0 rfl) ?_
        refine w_getN (v := .ref (sA u 5 (gN u.2.1 26 (j_4) 0))) (fk := 1) hF hB ⟨(hI.k8 hjl_6), rfl⟩ (cn_8 env u (j_4)) rfl in_X3 (by decide) tw_1_217 rfl rfl dX4_told_70 ?_
        refine w_getN (v := .int (nI (gN u.2.1 26 (j_4) 0))) (fk := 0) hF hB ⟨(hI.k5 (hI.tx (hI.k8 hjl_6)).2), rfl⟩ (cn_5 env u (gN u.2.1 26 (j_4) 0)) rfl in_X1 (by decide) tw_1_64 rfl rfl dX4_told_73 ?_
        exact w_iret (v := nI (gN u.2.1 26 (j_4) 0)) hF hr hlocks hB (⟨rfl, by first | (simp [ctold, hj_5, hx_hj_7, c_10, c_11]; done) | (simp [ctold, hj_5, hx_hj_7, c_10, c_11]; rfl) | (simp [ctold, hj_5, hx_hj_7, c_10, c_11] <;> omega) | (simp [ctold, hj_5, hx_hj_7, c_10, c_11]; exact congrArg b2i (by simp [hj_5, hx_hj_7, c_10, c_11] <;> omega))⟩) dX4_told_76
      by_cases c_12 : j_8 = 2
      · refine lv_tableIn (tgt := 77) hx hb dX4_told_13 (by rw [c_12]; decide) (by rw [c_12]; decide) (by rw [c_12]; rfl) (by decide) ?_
        refine lv_aload_n hx hb dX4_told_77 rfl (lv_at hl 0 rfl) ?_
        refine w_getN (v := .int (nI (gN u.2.1 17 (j_4) (0)))) (fk := 10) hF hB ⟨(hI.k8 hjl_6), rfl⟩ (cn_8 env u (j_4)) rfl in_X3 (by decide) tw_1_239 rfl rfl dX4_told_78 ?_
        exact w_iret (v := nI (gN u.2.1 17 (j_4) (0))) hF hr hlocks hB (⟨rfl, by first | (simp [ctold, hj_5, hx_hj_7, c_10, c_11, c_12]; done) | (simp [ctold, hj_5, hx_hj_7, c_10, c_11, c_12]; rfl) | (simp [ctold, hj_5, hx_hj_7, c_10, c_11, c_12] <;> omega) | (simp [ctold, hj_5, hx_hj_7, c_10, c_11, c_12]; exact congrArg b2i (by simp [hj_5, hx_hj_7, c_10, c_11, c_12] <;> omega))⟩) dX4_told_81
      by_cases c_13 : j_8 = 3
      · refine lv_tableIn (tgt := 82) hx hb dX4_told_13 (by rw [c_13]; decide) (by rw [c_13]; decide) (by rw [c_13]; rfl) (by decide) ?_
        refine lv_aload_n hx hb dX4_told_82 rfl (lv_at hl 0 rfl) ?_
        refine w_getN (v := .int (nI (gN u.2.1 20 (j_4) (0)))) (fk := 13) hF hB ⟨(hI.k8 hjl_6), rfl⟩ (cn_8 env u (j_4)) rfl in_X3 (by decide) tw_2_2 rfl rfl dX4_told_83 ?_
        exact w_iret (v := nI (gN u.2.1 20 (j_4) (0))) hF hr hlocks hB (⟨rfl, by first | (simp [ctold, hj_5, hx_hj_7, c_10, c_11, c_12, c_13]; done) | (simp [ctold, hj_5, hx_hj_7, c_10, c_11, c_12, c_13]; rfl) | (simp [ctold, hj_5, hx_hj_7, c_10, c_11, c_12, c_13] <;> omega) | (simp [ctold, hj_5, hx_hj_7, c_10, c_11, c_12, c_13]; exact congrArg b2i (by simp [hj_5, hx_hj_7, c_10, c_11, c_12, c_13] <;> omega))⟩) dX4_told_86
      by_cases c_14 : j_8 = 4
      · refine lv_tableIn (tgt := 87) hx hb dX4_told_13 (by rw [c_14]; decide) (by rw [c_14]; decide) (by rw [c_14]; rfl) (by decide) ?_
        refine lv_aload_n hx hb dX4_told_87 rfl (lv_at hl 1 rfl) ?_
        refine lv_aload_n hx hb dX4_told_88 rfl (lv_at hl 0 rfl) ?_
        refine w_ci (r_V (As := [.ref (sA u 8 (j_4))]) (rest := []) hF hB (c_X4_isSafe l env s0 X u (a0) (0) (ha0) (sA u 8 (j_4)) (j_4) (⟨(hI.k8 hjl_6), rfl⟩) hI hNb) cv_X4_isSafe tw_3_26 ⟨rfl, rfl, by decide, by decide⟩ (hB.recv ha0 (cn_0 env u (0)) rfl) rfl hl.1 rfl (lv_room (by decide)) dX4_told_89 ⟨Nat.le_of_ble_eq_true rfl, Nat.le_of_ble_eq_true rfl⟩) hB (fun r_15 u_17 H locs hq_16 hB => ?_)
        obtain ⟨rfl, rfl⟩ := hq_16
        refine w_ci (r_S (As := [.int (b2i (cSafe u.2.1 (j_4)))]) (rest := []) hF hB (c_X4_oneIf l env s0 X u (cSafe u.2.1 (j_4)) ) cs_X4_oneIf tw_3_19 ⟨rfl, rfl, by decide, by decide⟩ rfl hl.1 rfl (lv_room (by decide)) dX4_told_92 ⟨Nat.le_of_ble_eq_true rfl, Nat.le_of_ble_eq_true rfl⟩) hB (fun r_18 u_20 H locs hq_19 hB => ?_)
        obtain ⟨rfl, rfl⟩ := hq_19
        exact w_iret (v := b2i (cSafe u.2.1 (j_4))) hF hr hlocks hB (⟨rfl, by first | (simp [ctold, hj_5, hx_hj_7, c_10, c_11, c_12, c_13, c_14]; done) | (simp [ctold, hj_5, hx_hj_7, c_10, c_11, c_12, c_13, c_14]; rfl) | (simp [ctold, hj_5, hx_hj_7, c_10, c_11, c_12, c_13, c_14] <;> omega) | (simp [ctold, hj_5, hx_hj_7, c_10, c_11, c_12, c_13, c_14]; exact congrArg b2i (by simp [hj_5, hx_hj_7, c_10, c_11, c_12, c_13, c_14] <;> omega))⟩) dX4_told_95
      by_cases c_21 : j_8 = 5
      · refine lv_tableIn (tgt := 96) hx hb dX4_told_13 (by rw [c_21]; decide) (by rw [c_21]; decide) (by rw [c_21]; rfl) (by decide) ?_
        refine lv_aload_n hx hb dX4_told_96 rfl (lv_at hl 1 rfl) ?_
        refine lv_aload_n hx hb dX4_told_97 rfl (lv_at hl 0 rfl) ?_
        refine w_ci (r_V (As := [.ref (sA u 8 (j_4))]) (rest := []) hF hB (c_X4_isEverywhere l env s0 X u (a0) (0) (ha0) (sA u 8 (j_4)) (j_4) (⟨(hI.k8 hjl_6), rfl⟩) hI hNb hn) cv_X4_isEverywhere tw_3_31 ⟨rfl, rfl, by decide, by decide⟩ (hB.recv ha0 (cn_0 env u (0)) rfl) rfl hl.1 rfl (lv_room (by decide)) dX4_told_98 ⟨Nat.le_of_ble_eq_true rfl, Nat.le_of_ble_eq_true rfl⟩) hB (fun r_22 u_24 H locs hq_23 hB => ?_)
        obtain ⟨rfl, rfl⟩ := hq_23
        refine w_ci (r_S (As := [.int (b2i (cEvery u.2.1 (j_4)))]) (rest := []) hF hB (c_X4_oneIf l env s0 X u (cEvery u.2.1 (j_4)) ) cs_X4_oneIf tw_3_19 ⟨rfl, rfl, by decide, by decide⟩ rfl hl.1 rfl (lv_room (by decide)) dX4_told_101 ⟨Nat.le_of_ble_eq_true rfl, Nat.le_of_ble_eq_true rfl⟩) hB (fun r_25 u_27 H locs hq_26 hB => ?_)
        obtain ⟨rfl, rfl⟩ := hq_26
        exact w_iret (v := b2i (cEvery u.2.1 (j_4))) hF hr hlocks hB (⟨rfl, by first | (simp [ctold, hj_5, hx_hj_7, c_10, c_11, c_12, c_13, c_14, c_21]; done) | (simp [ctold, hj_5, hx_hj_7, c_10, c_11, c_12, c_13, c_14, c_21]; rfl) | (simp [ctold, hj_5, hx_hj_7, c_10, c_11, c_12, c_13, c_14, c_21] <;> omega) | (simp [ctold, hj_5, hx_hj_7, c_10, c_11, c_12, c_13, c_14, c_21]; exact congrArg b2i (by simp [hj_5, hx_hj_7, c_10, c_11, c_12, c_13, c_14, c_21] <;> omega))⟩) dX4_told_104
      by_cases c_28 : j_8 = 6
      · refine lv_tableIn (tgt := 105) hx hb dX4_told_13 (by rw [c_28]; decide) (by rw [c_28]; decide) (by rw [c_28]; rfl) (by decide) ?_
        refine lv_aload_n hx hb dX4_told_105 rfl (lv_at hl 0 rfl) ?_
        refine w_getN (v := .int (nI (gN u.2.1 15 (j_4) (0)))) (fk := 8) hF hB ⟨(hI.k8 hjl_6), rfl⟩ (cn_8 env u (j_4)) rfl in_X3 (by decide) tw_1_234 rfl rfl dX4_told_106 ?_
        exact w_iret (v := nI (gN u.2.1 15 (j_4) (0))) hF hr hlocks hB (⟨rfl, by first | (simp [ctold, hj_5, hx_hj_7, c_10, c_11, c_12, c_13, c_14, c_21, c_28]; done) | (simp [ctold, hj_5, hx_hj_7, c_10, c_11, c_12, c_13, c_14, c_21, c_28]; rfl) | (simp [ctold, hj_5, hx_hj_7, c_10, c_11, c_12, c_13, c_14, c_21, c_28] <;> omega) | (simp [ctold, hj_5, hx_hj_7, c_10, c_11, c_12, c_13, c_14, c_21, c_28]; exact congrArg b2i (by simp [hj_5, hx_hj_7, c_10, c_11, c_12, c_13, c_14, c_21, c_28] <;> omega))⟩) dX4_told_109
      by_cases c_29 : j_8 = 7
      · refine lv_tableIn (tgt := 110) hx hb dX4_told_13 (by rw [c_29]; decide) (by rw [c_29]; decide) (by rw [c_29]; rfl) (by decide) ?_
        refine lv_aload_n hx hb dX4_told_110 rfl (lv_at hl 0 rfl) ?_
        refine w_getN (v := .int (nI (gN u.2.1 19 (j_4) (0)))) (fk := 12) hF hB ⟨(hI.k8 hjl_6), rfl⟩ (cn_8 env u (j_4)) rfl in_X3 (by decide) tw_2_1 rfl rfl dX4_told_111 ?_
        exact w_iret (v := nI (gN u.2.1 19 (j_4) (0))) hF hr hlocks hB (⟨rfl, by first | (simp [ctold, hj_5, hx_hj_7, c_10, c_11, c_12, c_13, c_14, c_21, c_28, c_29]; done) | (simp [ctold, hj_5, hx_hj_7, c_10, c_11, c_12, c_13, c_14, c_21, c_28, c_29]; rfl) | (simp [ctold, hj_5, hx_hj_7, c_10, c_11, c_12, c_13, c_14, c_21, c_28, c_29] <;> omega) | (simp [ctold, hj_5, hx_hj_7, c_10, c_11, c_12, c_13, c_14, c_21, c_28, c_29]; exact congrArg b2i (by simp [hj_5, hx_hj_7, c_10, c_11, c_12, c_13, c_14, c_21, c_28, c_29] <;> omega))⟩) dX4_told_114
      by_cases c_30 : j_8 = 8
      · refine lv_tableIn (tgt := 115) hx hb dX4_told_13 (by rw [c_30]; decide) (by rw [c_30]; decide) (by rw [c_30]; rfl) (by decide) ?_
        refine lv_aload_n hx hb dX4_told_115 rfl (lv_at hl 0 rfl) ?_
        refine w_getN (v := .int (nI (gN u.2.1 18 (j_4) (0)))) (fk := 11) hF hB ⟨(hI.k8 hjl_6), rfl⟩ (cn_8 env u (j_4)) rfl in_X3 (by decide) tw_2_0 rfl rfl dX4_told_116 ?_
        exact w_iret (v := nI (gN u.2.1 18 (j_4) (0))) hF hr hlocks hB (⟨rfl, by first | (simp [ctold, hj_5, hx_hj_7, c_10, c_11, c_12, c_13, c_14, c_21, c_28, c_29, c_30]; done) | (simp [ctold, hj_5, hx_hj_7, c_10, c_11, c_12, c_13, c_14, c_21, c_28, c_29, c_30]; rfl) | (simp [ctold, hj_5, hx_hj_7, c_10, c_11, c_12, c_13, c_14, c_21, c_28, c_29, c_30] <;> omega) | (simp [ctold, hj_5, hx_hj_7, c_10, c_11, c_12, c_13, c_14, c_21, c_28, c_29, c_30]; exact congrArg b2i (by simp [hj_5, hx_hj_7, c_10, c_11, c_12, c_13, c_14, c_21, c_28, c_29, c_30] <;> omega))⟩) dX4_told_119
      omega
set_option maxHeartbeats 4000000 in
set_option maxRecDepth 100000 in
theorem c_X4_sees (l : Launch) (env : Ev) (s0 : Nat) (X : va_W) (u : St) (a0 : Nat) (_xa0 : Nat) (ha0 : At u 0 (0) a0) (v1 : Int32) (v2 : Int32) (hI : SI env u) (hNb : Nb u.2.1) : Met l yX4_sees [Cond.code yX4_sees cX4_sees 5 (some .int)] { frames := 4, cells := 0, slots := 0, locals := 85 } (va_Pc [.ref (a0), .int (v1), .int (v2)] (Pr env s0 X u)) (va_Qi (fun r u' => u = u' ∧ r = csees u.2.1 v1 v2) (Po env s0 X) (fun q => s0 ≤ q)) 0 0 (fun q => s0 ≤ q) := by
  refine Met.ofW (cc := cX4_sees) (maxL := 5) (ret := (some .int)) (by decide) rfl ?_
  intro p e s m args below meth c s₁ B hml hv
  obtain ⟨rfl, hv⟩ := hv
  have hx := B.exec
  have hb := B.bytes
  have hr := B.returns
  have hts : ∀ ww ∈ TT, ww.before #[.ref (a0), .int (v1), .int (v2)] s = true := fun ww hw => hv.2.1 ww hw _
  have hown : s.vm.findClass RX4 = some m.cls := findClass_of_methodNamed B.named
  have hlocks := B.notSynchronized
  have hF : CallFix p m c cX4_sees 5 s #[.ref (a0), .int (v1), .int (v2)] TT RX4 := ⟨hx, hb, hml, hown, hts⟩
  have hB := Bd.entry hv
  have hl := lv_entry ([.ref (a0), .int (v1), .int (v2)]) (n := 5) (Nat.le_of_ble_eq_true rfl)
  rw [lg_entry_eq]
  generalize (lg_sl ([.ref (a0), .int (v1), .int (v2)]) ++ List.replicate (5 - (lg_sl ([.ref (a0), .int (v1), .int (v2)])).length) Slot.unset).toArray = ls at hl ⊢
  have hl : lv_has ls 5 [(0, .ref (a0)), (1, .int (v1)), (2, .int (v2))] := hl
  have hn4 := hI.nst
  have hn1 := hI.nth
  have hn2 := hI.ntx
  refine lv_aload_n hx hb dX4_sees_0 rfl (lv_at hl 0 rfl) ?_
  refine lv_iload_n hx hb dX4_sees_1 rfl (lv_at hl 1 rfl) ?_
  refine w_cq (r_V (As := [.int (v1)]) (rest := []) hF hB (c_X4_findTransaction l env s0 X u (a0) (0) (ha0) (v1) hI hNb) cv_X4_findTransaction tw_2_38 ⟨rfl, rfl, by decide, by decide⟩ (hB.recv ha0 (cn_0 env u (0)) rfl) rfl hl.1 rfl (lv_room (by decide)) dX4_sees_2 ⟨Nat.le_of_ble_eq_true rfl, Nat.le_of_ble_eq_true rfl⟩) hB (fun r_1 u_3 H locs hq_2 hB => ?_)
  obtain ⟨rfl, rfl⟩ := hq_2
  rcases hj_5 : ix v1 (gN u.2.1 3 1 0) with _ | j_4
  · show W p l e _ s m _ below meth c H locs _ _ _ (F0 m _ ls [.null])
    refine lv_astore_nN (lv' := [(3, .null), (0, .ref (a0)), (1, .int (v1)), (2, .int (v2))]) hx hb dX4_sees_5 rfl hl (by decide) rfl (fun ls hl => ?_)
    refine lv_aload_n hx hb dX4_sees_6 rfl (lv_at hl 1 rfl) ?_
    refine lv_iload_n hx hb dX4_sees_7 rfl (lv_at hl 3 rfl) ?_
    refine w_cq (r_V (As := [.int (v2)]) (rest := []) hF hB (c_X4_findTransaction l env s0 X u (a0) (0) (ha0) (v2) hI hNb) cv_X4_findTransaction tw_2_38 ⟨rfl, rfl, by decide, by decide⟩ (hB.recv ha0 (cn_0 env u (0)) rfl) rfl hl.1 rfl (lv_room (by decide)) dX4_sees_8 ⟨Nat.le_of_ble_eq_true rfl, Nat.le_of_ble_eq_true rfl⟩) hB (fun r_7 u_9 H locs hq_8 hB => ?_)
    obtain ⟨rfl, rfl⟩ := hq_8
    rcases hj_11 : ix v2 (gN u.2.1 3 1 0) with _ | j_10
    · show W p l e _ s m _ below meth c H locs _ _ _ (F0 m _ ls [.null])
      refine lv_astoreN (lv' := [(4, .null), (3, .null), (0, .ref (a0)), (1, .int (v1)), (2, .int (v2))]) hx hb dX4_sees_11 hl (by decide) rfl (fun ls hl => ?_)
      refine lv_aload_nN hx hb dX4_sees_13 rfl (lv_at hl 1 rfl) ?_
      refine lv_ifnullN (tgt := 22) hx hb dX4_sees_14 (by decide) ?_
      refine lv_iconst (v := -1) hx hb dX4_sees_22 (by decide) ?_
      exact w_iret (v := -1) hF hr hlocks hB (⟨rfl, by simp [csees, hj_5, hj_11]⟩) dX4_sees_23
    · obtain ⟨hjl_12, rfl⟩ := ix_some (by have := hNb 3 1 0; omega) hj_11
      show W p l e _ s m _ below meth c H locs _ _ _ (F0 m _ ls [.ref (sA u 8 (j_10))])
      refine lv_astore (lv' := [(4, .ref (sA u 8 (j_10))), (3, .null), (0, .ref (a0)), (1, .int (v1)), (2, .int (nI (j_10)))]) hx hb dX4_sees_11 hl (by decide) rfl (fun ls hl => ?_)
      refine lv_aload_nN hx hb dX4_sees_13 rfl (lv_at hl 1 rfl) ?_
      refine lv_ifnullN (tgt := 22) hx hb dX4_sees_14 (by decide) ?_
      refine lv_iconst (v := -1) hx hb dX4_sees_22 (by decide) ?_
      exact w_iret (v := -1) hF hr hlocks hB (⟨rfl, by simp [csees, hj_5, hj_11]⟩) dX4_sees_23
  · obtain ⟨hjl_6, rfl⟩ := ix_some (by have := hNb 3 1 0; omega) hj_5
    show W p l e _ s m _ below meth c H locs _ _ _ (F0 m _ ls [.ref (sA u 8 (j_4))])
    refine lv_astore_n (lv' := [(3, .ref (sA u 8 (j_4))), (0, .ref (a0)), (1, .int (nI (j_4))), (2, .int (v2))]) hx hb dX4_sees_5 rfl hl (by decide) rfl (fun ls hl => ?_)
    refine lv_aload_n hx hb dX4_sees_6 rfl (lv_at hl 1 rfl) ?_
    refine lv_iload_n hx hb dX4_sees_7 rfl (lv_at hl 3 rfl) ?_
    refine w_cq (r_V (As := [.int (v2)]) (rest := []) hF hB (c_X4_findTransaction l env s0 X u (a0) (0) (ha0) (v2) hI hNb) cv_X4_findTransaction tw_2_38 ⟨rfl, rfl, by decide, by decide⟩ (hB.recv ha0 (cn_0 env u (0)) rfl) rfl hl.1 rfl (lv_room (by decide)) dX4_sees_8 ⟨Nat.le_of_ble_eq_true rfl, Nat.le_of_ble_eq_true rfl⟩) hB (fun r_13 u_15 H locs hq_14 hB => ?_)
    obtain ⟨rfl, rfl⟩ := hq_14
    rcases hj_17 : ix v2 (gN u.2.1 3 1 0) with _ | j_16
    · show W p l e _ s m _ below meth c H locs _ _ _ (F0 m _ ls [.null])
      refine lv_astoreN (lv' := [(4, .null), (3, .ref (sA u 8 (j_4))), (0, .ref (a0)), (1, .int (nI (j_4))), (2, .int (v2))]) hx hb dX4_sees_11 hl (by decide) rfl (fun ls hl => ?_)
      refine lv_aload_n hx hb dX4_sees_13 rfl (lv_at hl 1 rfl) ?_
      refine lv_ifnull hx hb dX4_sees_14 ?_
      refine lv_aloadN hx hb dX4_sees_17 (lv_at hl 0 rfl) ?_
      refine lv_ifnonnullN hx hb dX4_sees_19 ?_
      refine lv_iconst (v := -1) hx hb dX4_sees_22 (by decide) ?_
      exact w_iret (v := -1) hF hr hlocks hB (⟨rfl, by simp [csees, hj_5, hj_17]⟩) dX4_sees_23
    · obtain ⟨hjl_18, rfl⟩ := ix_some (by have := hNb 3 1 0; omega) hj_17
      show W p l e _ s m _ below meth c H locs _ _ _ (F0 m _ ls [.ref (sA u 8 (j_16))])
      refine lv_astore (lv' := [(4, .ref (sA u 8 (j_16))), (3, .ref (sA u 8 (j_4))), (0, .ref (a0)), (1, .int (nI (j_4))), (2, .int (nI (j_16)))]) hx hb dX4_sees_11 hl (by decide) rfl (fun ls hl => ?_)
      refine lv_aload_n hx hb dX4_sees_13 rfl (lv_at hl 1 rfl) ?_
      refine lv_ifnull hx hb dX4_sees_14 ?_
      refine lv_aload hx hb dX4_sees_17 (lv_at hl 0 rfl) ?_
      refine lv_ifnonnull (tgt := 24) hx hb dX4_sees_19 (by decide) ?_
      refine lv_aload hx hb dX4_sees_24 (lv_at hl 0 rfl) ?_
      refine w_ci (r_VN (As := []) (rest := []) hF hB (c_X3_hasCommit l env s0 X u (sA u 8 (j_16)) (j_16) (⟨(hI.k8 hjl_18), rfl⟩) hNb) cv_X3_hasCommit tw_3_30 ⟨rfl, rfl, by decide, by decide⟩ (hB.recv ⟨(hI.k8 hjl_18), rfl⟩ (cn_8 env u (j_16)) rfl) rfl hl.1 rfl (lv_room (by decide)) dX4_sees_26 ⟨Nat.le_of_ble_eq_true rfl, Nat.le_of_ble_eq_true rfl⟩) hB (fun r_19 u_21 H locs hq_20 hB => ?_)
      obtain ⟨rfl, rfl⟩ := hq_20
      refine w_ifne_b (tgt := 35) hx hb dX4_sees_29 (by decide) (fun c_22 => ?_) (fun c_22 => ?_)
      · refine lv_iload_n hx hb dX4_sees_35 rfl (lv_at hl 3 rfl) ?_
        refine lv_iload_n hx hb dX4_sees_36 rfl (lv_at hl 4 rfl) ?_
        refine w_iceq_n (tgt := 52) (by omega) (by omega) hx hb dX4_sees_37 (by decide) (fun c_23 => ?_) (fun c_23 => ?_)
        · refine lv_iconst (v := nI 1) hx hb dX4_sees_52 (by decide) ?_
          refine lv_goto (tgt := 57) hx hb dX4_sees_53 (by decide) ?_
          refine w_ci (r_S (As := [.int (nI (1))]) (rest := []) hF hB (c_X4_oneIf l env s0 X u (true) ) cs_X4_oneIf tw_3_19 ⟨rfl, rfl, by decide, by decide⟩ rfl hl.1 rfl (lv_room (by decide)) dX4_sees_57 ⟨Nat.le_of_ble_eq_true rfl, Nat.le_of_ble_eq_true rfl⟩) hB (fun r_24 u_26 H locs hq_25 hB => ?_)
          obtain ⟨rfl, rfl⟩ := hq_25
          exact w_iret (v := b2i true) hF hr hlocks hB (⟨rfl, by simp only [csees, hj_5, hj_17]; rw [if_pos (by simpa using c_22)]; exact congrArg b2i (by simp [c_23])⟩) dX4_sees_60
        · refine lv_aload hx hb dX4_sees_40 (lv_at hl 0 rfl) ?_
          refine lv_aload_n hx hb dX4_sees_42 rfl (lv_at hl 1 rfl) ?_
          refine w_getN (v := .ref (sA u 9 (j_4))) (fk := 2) hF hB ⟨(hI.k8 hjl_6), rfl⟩ (cn_8 env u (j_4)) rfl in_X3 (by decide) tw_1_220 rfl rfl dX4_sees_43 ?_
          refine w_ci (r_VN (As := [.ref (sA u 9 (j_4))]) (rest := []) hF hB (c_X3_isWithin l env s0 X u (sA u 8 (j_16)) (j_16) (⟨(hI.k8 hjl_18), rfl⟩) (sA u 9 (j_4)) (9) (j_4) (⟨(hI.k9 (hI.k8 hjl_6)), rfl⟩) hI hNb (Or.inr rfl)) cv_X3_isWithin tw_3_59 ⟨rfl, rfl, by decide, by decide⟩ (hB.recv ⟨(hI.k8 hjl_18), rfl⟩ (cn_8 env u (j_16)) rfl) rfl hl.1 rfl (lv_room (by decide)) dX4_sees_46 ⟨Nat.le_of_ble_eq_true rfl, Nat.le_of_ble_eq_true rfl⟩) hB (fun r_27 u_29 H locs hq_28 hB => ?_)
          obtain ⟨rfl, rfl⟩ := hq_28
          refine w_ifeq_b (tgt := 56) hx hb dX4_sees_49 (by decide) (fun c_30 => ?_) (fun c_30 => ?_)
          · refine lv_iconst (v := nI 0) hx hb dX4_sees_56 (by decide) ?_
            refine w_ci (r_S (As := [.int (nI (0))]) (rest := []) hF hB (c_X4_oneIf l env s0 X u (false) ) cs_X4_oneIf tw_3_19 ⟨rfl, rfl, by decide, by decide⟩ rfl hl.1 rfl (lv_room (by decide)) dX4_sees_57 ⟨Nat.le_of_ble_eq_true rfl, Nat.le_of_ble_eq_true rfl⟩) hB (fun r_31 u_33 H locs hq_32 hB => ?_)
            obtain ⟨rfl, rfl⟩ := hq_32
            exact w_iret (v := b2i false) hF hr hlocks hB (⟨rfl, by simp only [csees, hj_5, hj_17]; rw [if_pos (by simpa using c_22)]; exact congrArg b2i (by simp [c_23, c_30])⟩) dX4_sees_60
          · refine lv_iconst (v := nI 1) hx hb dX4_sees_52 (by decide) ?_
            refine lv_goto (tgt := 57) hx hb dX4_sees_53 (by decide) ?_
            refine w_ci (r_S (As := [.int (nI (1))]) (rest := []) hF hB (c_X4_oneIf l env s0 X u (true) ) cs_X4_oneIf tw_3_19 ⟨rfl, rfl, by decide, by decide⟩ rfl hl.1 rfl (lv_room (by decide)) dX4_sees_57 ⟨Nat.le_of_ble_eq_true rfl, Nat.le_of_ble_eq_true rfl⟩) hB (fun r_34 u_36 H locs hq_35 hB => ?_)
            obtain ⟨rfl, rfl⟩ := hq_35
            exact w_iret (v := b2i true) hF hr hlocks hB (⟨rfl, by simp only [csees, hj_5, hj_17]; rw [if_pos (by simpa using c_22)]; exact congrArg b2i (by simp [c_23, c_30])⟩) dX4_sees_60
      · refine lv_bipush (v := -4) hx hb dX4_sees_32 (by decide) ?_
        exact w_iret (v := -4) hF hr hlocks hB (⟨rfl, by simp only [csees, hj_5, hj_17]; rw [if_neg (by simpa using c_22)]⟩) dX4_sees_34
set_option maxHeartbeats 4000000 in
set_option maxRecDepth 100000 in
theorem c_X4_count (l : Launch) (env : Ev) (s0 : Nat) (X : va_W) (u : St) (a0 : Nat) (_xa0 : Nat) (ha0 : At u 0 (0) a0) (v1 : Int32) (hI : SI env u) (hNb : Nb u.2.1) : Met l yX4_count [Cond.code yX4_count cX4_count 2 (some .int)] { frames := 4, cells := 0, slots := 0, locals := 87 } (va_Pc [.ref (a0), .int (v1)] (Pr env s0 X u)) (va_Qi (fun r u' => u = u' ∧ r = ccount u.2.1 v1) (Po env s0 X) (fun q => s0 ≤ q)) 0 0 (fun q => s0 ≤ q) := by
  refine Met.ofW (cc := cX4_count) (maxL := 2) (ret := (some .int)) (by decide) rfl ?_
  intro p e s m args below meth c s₁ B hml hv
  obtain ⟨rfl, hv⟩ := hv
  have hx := B.exec
  have hb := B.bytes
  have hr := B.returns
  have hts : ∀ ww ∈ TT, ww.before #[.ref (a0), .int (v1)] s = true := fun ww hw => hv.2.1 ww hw _
  have hown : s.vm.findClass RX4 = some m.cls := findClass_of_methodNamed B.named
  have hlocks := B.notSynchronized
  have hF : CallFix p m c cX4_count 2 s #[.ref (a0), .int (v1)] TT RX4 := ⟨hx, hb, hml, hown, hts⟩
  have hB := Bd.entry hv
  have hl := lv_entry ([.ref (a0), .int (v1)]) (n := 2) (Nat.le_of_ble_eq_true rfl)
  rw [lg_entry_eq]
  generalize (lg_sl ([.ref (a0), .int (v1)]) ++ List.replicate (2 - (lg_sl ([.ref (a0), .int (v1)])).length) Slot.unset).toArray = ls at hl ⊢
  have hl : lv_has ls 2 [(0, .ref (a0)), (1, .int (v1))] := hl
  have hn4 := hI.nst
  have hn1 := hI.nth
  have hn2 := hI.ntx
  refine lv_iload_n hx hb dX4_count_0 rfl (lv_at hl 1 rfl) ?_
  rcases hx_hj_1 : ix v1 10 with _ | j_2
  · refine lv_tableOut (tgt := 117) hx hb dX4_count_1 (sw_out (n := 10) rfl (by decide) hx_hj_1) (by decide) ?_
    refine lv_iconst (v := -1) hx hb dX4_count_117 (by decide) ?_
    exact w_iret (v := -1) hF hr hlocks hB (⟨rfl, by first | (simp [ccount, hx_hj_1]; done) | (simp [ccount, hx_hj_1]; rfl) | (simp [ccount, hx_hj_1] <;> omega) | (simp [ccount, hx_hj_1]; exact congrArg b2i (by simp [hx_hj_1] <;> omega))⟩) dX4_count_118
  · obtain ⟨hjl_3, rfl⟩ := ix_some (by decide) hx_hj_1
    by_cases c_4 : j_2 = 0
    · refine lv_tableIn (tgt := 56) hx hb dX4_count_1 (by rw [c_4]; decide) (by rw [c_4]; decide) (by rw [c_4]; rfl) (by decide) ?_
      refine lv_aload_n hx hb dX4_count_56 rfl (lv_at hl 0 rfl) ?_
      refine w_get (v := .int (nI (gN u.2.1 0 (0) (0)))) (fk := 1) hF hB ha0 (cn_0 env u (0)) rfl in_X4 (by decide) tw_1_82 rfl rfl dX4_count_57 ?_
      exact w_iret (v := nI (gN u.2.1 0 (0) (0))) hF hr hlocks hB (⟨rfl, by first | (simp [ccount, hx_hj_1, c_4]; done) | (simp [ccount, hx_hj_1, c_4]; rfl) | (simp [ccount, hx_hj_1, c_4] <;> omega) | (simp [ccount, hx_hj_1, c_4]; exact congrArg b2i (by simp [hx_hj_1, c_4] <;> omega))⟩) dX4_count_60
    by_cases c_5 : j_2 = 1
    · refine lv_tableIn (tgt := 61) hx hb dX4_count_1 (by rw [c_5]; decide) (by rw [c_5]; decide) (by rw [c_5]; rfl) (by decide) ?_
      refine lv_aload_n hx hb dX4_count_61 rfl (lv_at hl 0 rfl) ?_
      refine w_get (v := .int (nI (gN u.2.1 1 (0) (0)))) (fk := 2) hF hB ha0 (cn_0 env u (0)) rfl in_X4 (by decide) tw_1_83 rfl rfl dX4_count_62 ?_
      exact w_iret (v := nI (gN u.2.1 1 (0) (0))) hF hr hlocks hB (⟨rfl, by first | (simp [ccount, hx_hj_1, c_4, c_5]; done) | (simp [ccount, hx_hj_1, c_4, c_5]; rfl) | (simp [ccount, hx_hj_1, c_4, c_5] <;> omega) | (simp [ccount, hx_hj_1, c_4, c_5]; exact congrArg b2i (by simp [hx_hj_1, c_4, c_5] <;> omega))⟩) dX4_count_65
    by_cases c_6 : j_2 = 2
    · refine lv_tableIn (tgt := 66) hx hb dX4_count_1 (by rw [c_6]; decide) (by rw [c_6]; decide) (by rw [c_6]; rfl) (by decide) ?_
      refine lv_aload_n hx hb dX4_count_66 rfl (lv_at hl 0 rfl) ?_
      refine w_get (v := .ref (sA u 2 (0))) (fk := 3) hF hB ha0 (cn_0 env u (0)) rfl in_X4 (by decide) tw_1_84 rfl rfl dX4_count_67 ?_
      refine w_ci (r_V (As := []) (rest := []) hF hB (c_Jx4a65c_size_8abf5 l env s0 X u (sA u 2 (0)) (0) (⟨(hI.k2 (by decide)), rfl⟩) ) cv_Jx4a65c_size_8abf5 tw_1_116 ⟨rfl, rfl, by decide, by decide⟩ (hB.recv ⟨(hI.k2 (by decide)), rfl⟩ (cn_2 env u (0)) rfl) rfl hl.1 rfl (lv_room (by decide)) dX4_count_70 ⟨Nat.le_of_ble_eq_true rfl, Nat.le_of_ble_eq_true rfl⟩) hB (fun r_7 u_9 H locs hq_8 hB => ?_)
      obtain ⟨rfl, rfl⟩ := hq_8
      exact w_iret (v := nI (gN u.2.1 3 (0) 0)) hF hr hlocks hB (⟨rfl, by first | (simp [ccount, hx_hj_1, c_4, c_5, c_6]; done) | (simp [ccount, hx_hj_1, c_4, c_5, c_6]; rfl) | (simp [ccount, hx_hj_1, c_4, c_5, c_6] <;> omega) | (simp [ccount, hx_hj_1, c_4, c_5, c_6]; exact congrArg b2i (by simp [hx_hj_1, c_4, c_5, c_6] <;> omega))⟩) dX4_count_73
    by_cases c_10 : j_2 = 3
    · refine lv_tableIn (tgt := 74) hx hb dX4_count_1 (by rw [c_10]; decide) (by rw [c_10]; decide) (by rw [c_10]; rfl) (by decide) ?_
      refine lv_aload_n hx hb dX4_count_74 rfl (lv_at hl 0 rfl) ?_
      refine w_get (v := .ref (sA u 2 (1))) (fk := 4) hF hB ha0 (cn_0 env u (0)) rfl in_X4 (by decide) tw_1_85 rfl rfl dX4_count_75 ?_
      refine w_ci (r_V (As := []) (rest := []) hF hB (c_Jx4a65c_size_8abf5 l env s0 X u (sA u 2 (1)) (1) (⟨(hI.k2 (by decide)), rfl⟩) ) cv_Jx4a65c_size_8abf5 tw_1_116 ⟨rfl, rfl, by decide, by decide⟩ (hB.recv ⟨(hI.k2 (by decide)), rfl⟩ (cn_2 env u (1)) rfl) rfl hl.1 rfl (lv_room (by decide)) dX4_count_78 ⟨Nat.le_of_ble_eq_true rfl, Nat.le_of_ble_eq_true rfl⟩) hB (fun r_11 u_13 H locs hq_12 hB => ?_)
      obtain ⟨rfl, rfl⟩ := hq_12
      exact w_iret (v := nI (gN u.2.1 3 (1) 0)) hF hr hlocks hB (⟨rfl, by first | (simp [ccount, hx_hj_1, c_4, c_5, c_6, c_10]; done) | (simp [ccount, hx_hj_1, c_4, c_5, c_6, c_10]; rfl) | (simp [ccount, hx_hj_1, c_4, c_5, c_6, c_10] <;> omega) | (simp [ccount, hx_hj_1, c_4, c_5, c_6, c_10]; exact congrArg b2i (by simp [hx_hj_1, c_4, c_5, c_6, c_10] <;> omega))⟩) dX4_count_81
    by_cases c_14 : j_2 = 4
    · refine lv_tableIn (tgt := 82) hx hb dX4_count_1 (by rw [c_14]; decide) (by rw [c_14]; decide) (by rw [c_14]; rfl) (by decide) ?_
      refine lv_aload_n hx hb dX4_count_82 rfl (lv_at hl 0 rfl) ?_
      refine w_get (v := .ref (sA u 2 (2))) (fk := 5) hF hB ha0 (cn_0 env u (0)) rfl in_X4 (by decide) tw_1_86 rfl rfl dX4_count_83 ?_
      refine w_ci (r_V (As := []) (rest := []) hF hB (c_Jx4a65c_size_8abf5 l env s0 X u (sA u 2 (2)) (2) (⟨(hI.k2 (by decide)), rfl⟩) ) cv_Jx4a65c_size_8abf5 tw_1_116 ⟨rfl, rfl, by decide, by decide⟩ (hB.recv ⟨(hI.k2 (by decide)), rfl⟩ (cn_2 env u (2)) rfl) rfl hl.1 rfl (lv_room (by decide)) dX4_count_86 ⟨Nat.le_of_ble_eq_true rfl, Nat.le_of_ble_eq_true rfl⟩) hB (fun r_15 u_17 H locs hq_16 hB => ?_)
      obtain ⟨rfl, rfl⟩ := hq_16
      exact w_iret (v := nI (gN u.2.1 3 (2) 0)) hF hr hlocks hB (⟨rfl, by first | (simp [ccount, hx_hj_1, c_4, c_5, c_6, c_10, c_14]; done) | (simp [ccount, hx_hj_1, c_4, c_5, c_6, c_10, c_14]; rfl) | (simp [ccount, hx_hj_1, c_4, c_5, c_6, c_10, c_14] <;> omega) | (simp [ccount, hx_hj_1, c_4, c_5, c_6, c_10, c_14]; exact congrArg b2i (by simp [hx_hj_1, c_4, c_5, c_6, c_10, c_14] <;> omega))⟩) dX4_count_89
    by_cases c_18 : j_2 = 5
    · refine lv_tableIn (tgt := 90) hx hb dX4_count_1 (by rw [c_18]; decide) (by rw [c_18]; decide) (by rw [c_18]; rfl) (by decide) ?_
      refine lv_aload_n hx hb dX4_count_90 rfl (lv_at hl 0 rfl) ?_
      refine lv_iconst (v := nI 2) hx hb dX4_count_91 (by decide) ?_
      refine w_ci (r_V (As := [.int (nI (2))]) (rest := []) hF hB (c_X4_howManyAre l env s0 X u (a0) (0) (ha0) (2) hI hNb (by decide)) cv_X4_howManyAre tw_3_68 ⟨rfl, rfl, by decide, by decide⟩ (hB.recv ha0 (cn_0 env u (0)) rfl) rfl hl.1 rfl (lv_room (by decide)) dX4_count_92 ⟨Nat.le_of_ble_eq_true rfl, Nat.le_of_ble_eq_true rfl⟩) hB (fun r_19 u_21 H locs hq_20 hB => ?_)
      obtain ⟨rfl, rfl⟩ := hq_20
      exact w_iret (v := nI (cntN (cStQ u.2.1 2) (gN u.2.1 3 1 0))) hF hr hlocks hB (⟨rfl, by first | (simp [ccount, hx_hj_1, c_4, c_5, c_6, c_10, c_14, c_18]; done) | (simp [ccount, hx_hj_1, c_4, c_5, c_6, c_10, c_14, c_18]; rfl) | (simp [ccount, hx_hj_1, c_4, c_5, c_6, c_10, c_14, c_18] <;> omega) | (simp [ccount, hx_hj_1, c_4, c_5, c_6, c_10, c_14, c_18]; exact congrArg b2i (by simp [hx_hj_1, c_4, c_5, c_6, c_10, c_14, c_18] <;> omega))⟩) dX4_count_95
    by_cases c_22 : j_2 = 6
    · refine lv_tableIn (tgt := 96) hx hb dX4_count_1 (by rw [c_22]; decide) (by rw [c_22]; decide) (by rw [c_22]; rfl) (by decide) ?_
      refine lv_aload_n hx hb dX4_count_96 rfl (lv_at hl 0 rfl) ?_
      refine lv_iconst (v := nI 3) hx hb dX4_count_97 (by decide) ?_
      refine w_ci (r_V (As := [.int (nI (3))]) (rest := []) hF hB (c_X4_howManyAre l env s0 X u (a0) (0) (ha0) (3) hI hNb (by decide)) cv_X4_howManyAre tw_3_68 ⟨rfl, rfl, by decide, by decide⟩ (hB.recv ha0 (cn_0 env u (0)) rfl) rfl hl.1 rfl (lv_room (by decide)) dX4_count_98 ⟨Nat.le_of_ble_eq_true rfl, Nat.le_of_ble_eq_true rfl⟩) hB (fun r_23 u_25 H locs hq_24 hB => ?_)
      obtain ⟨rfl, rfl⟩ := hq_24
      exact w_iret (v := nI (cntN (cStQ u.2.1 3) (gN u.2.1 3 1 0))) hF hr hlocks hB (⟨rfl, by first | (simp [ccount, hx_hj_1, c_4, c_5, c_6, c_10, c_14, c_18, c_22]; done) | (simp [ccount, hx_hj_1, c_4, c_5, c_6, c_10, c_14, c_18, c_22]; rfl) | (simp [ccount, hx_hj_1, c_4, c_5, c_6, c_10, c_14, c_18, c_22] <;> omega) | (simp [ccount, hx_hj_1, c_4, c_5, c_6, c_10, c_14, c_18, c_22]; exact congrArg b2i (by simp [hx_hj_1, c_4, c_5, c_6, c_10, c_14, c_18, c_22] <;> omega))⟩) dX4_count_101
    by_cases c_26 : j_2 = 7
    · refine lv_tableIn (tgt := 102) hx hb dX4_count_1 (by rw [c_26]; decide) (by rw [c_26]; decide) (by rw [c_26]; rfl) (by decide) ?_
      refine lv_aload_n hx hb dX4_count_102 rfl (lv_at hl 0 rfl) ?_
      refine w_ci (r_V (As := []) (rest := []) hF hB (c_X4_howManyCommits l env s0 X u (a0) (0) (ha0) hI hNb) cv_X4_howManyCommits tw_3_72 ⟨rfl, rfl, by decide, by decide⟩ (hB.recv ha0 (cn_0 env u (0)) rfl) rfl hl.1 rfl (lv_room (by decide)) dX4_count_103 ⟨Nat.le_of_ble_eq_true rfl, Nat.le_of_ble_eq_true rfl⟩) hB (fun r_27 u_29 H locs hq_28 hB => ?_)
      obtain ⟨rfl, rfl⟩ := hq_28
      exact w_iret (v := nI (sumN (cOwn u.2.1) (gN u.2.1 0 0 0))) hF hr hlocks hB (⟨rfl, by first | (simp [ccount, hx_hj_1, c_4, c_5, c_6, c_10, c_14, c_18, c_22, c_26]; done) | (simp [ccount, hx_hj_1, c_4, c_5, c_6, c_10, c_14, c_18, c_22, c_26]; rfl) | (simp [ccount, hx_hj_1, c_4, c_5, c_6, c_10, c_14, c_18, c_22, c_26] <;> omega) | (simp [ccount, hx_hj_1, c_4, c_5, c_6, c_10, c_14, c_18, c_22, c_26]; exact congrArg b2i (by simp [hx_hj_1, c_4, c_5, c_6, c_10, c_14, c_18, c_22, c_26] <;> omega))⟩) dX4_count_106
    by_cases c_30 : j_2 = 8
    · refine lv_tableIn (tgt := 107) hx hb dX4_count_1 (by rw [c_30]; decide) (by rw [c_30]; decide) (by rw [c_30]; rfl) (by decide) ?_
      refine lv_aload_n hx hb dX4_count_107 rfl (lv_at hl 0 rfl) ?_
      refine w_ci (r_V (As := []) (rest := []) hF hB (c_X4_howManyLocks l env s0 X u (a0) (0) (ha0) hI hNb) cv_X4_howManyLocks tw_3_76 ⟨rfl, rfl, by decide, by decide⟩ (hB.recv ha0 (cn_0 env u (0)) rfl) rfl hl.1 rfl (lv_room (by decide)) dX4_count_108 ⟨Nat.le_of_ble_eq_true rfl, Nat.le_of_ble_eq_true rfl⟩) hB (fun r_31 u_33 H locs hq_32 hB => ?_)
      obtain ⟨rfl, rfl⟩ := hq_32
      exact w_iret (v := nI (sumN (cLkd u.2.1) (gN u.2.1 0 0 0))) hF hr hlocks hB (⟨rfl, by first | (simp [ccount, hx_hj_1, c_4, c_5, c_6, c_10, c_14, c_18, c_22, c_26, c_30]; done) | (simp [ccount, hx_hj_1, c_4, c_5, c_6, c_10, c_14, c_18, c_22, c_26, c_30]; rfl) | (simp [ccount, hx_hj_1, c_4, c_5, c_6, c_10, c_14, c_18, c_22, c_26, c_30] <;> omega) | (simp [ccount, hx_hj_1, c_4, c_5, c_6, c_10, c_14, c_18, c_22, c_26, c_30]; exact congrArg b2i (by simp [hx_hj_1, c_4, c_5, c_6, c_10, c_14, c_18, c_22, c_26, c_30] <;> omega))⟩) dX4_count_111
    by_cases c_34 : j_2 = 9
    · refine lv_tableIn (tgt := 112) hx hb dX4_count_1 (by rw [c_34]; decide) (by rw [c_34]; decide) (by rw [c_34]; rfl) (by decide) ?_
      refine lv_aload_n hx hb dX4_count_112 rfl (lv_at hl 0 rfl) ?_
      refine w_ci (r_V (As := []) (rest := []) hF hB (c_X4_howManySafe l env s0 X u (a0) (0) (ha0) hI hNb) cv_X4_howManySafe tw_3_85 ⟨rfl, rfl, by decide, by decide⟩ (hB.recv ha0 (cn_0 env u (0)) rfl) rfl hl.1 rfl (lv_room (by decide)) dX4_count_113 ⟨Nat.le_of_ble_eq_true rfl, Nat.le_of_ble_eq_true rfl⟩) hB (fun r_35 u_37 H locs hq_36 hB => ?_)
      obtain ⟨rfl, rfl⟩ := hq_36
      exact w_iret (v := nI (cntN (cSafe u.2.1) (gN u.2.1 3 1 0))) hF hr hlocks hB (⟨rfl, by first | (simp [ccount, hx_hj_1, c_4, c_5, c_6, c_10, c_14, c_18, c_22, c_26, c_30, c_34]; done) | (simp [ccount, hx_hj_1, c_4, c_5, c_6, c_10, c_14, c_18, c_22, c_26, c_30, c_34]; rfl) | (simp [ccount, hx_hj_1, c_4, c_5, c_6, c_10, c_14, c_18, c_22, c_26, c_30, c_34] <;> omega) | (simp [ccount, hx_hj_1, c_4, c_5, c_6, c_10, c_14, c_18, c_22, c_26, c_30, c_34]; exact congrArg b2i (by simp [hx_hj_1, c_4, c_5, c_6, c_10, c_14, c_18, c_22, c_26, c_30, c_34] <;> omega))⟩) dX4_count_116
    omega
set_option maxHeartbeats 4000000 in
set_option maxRecDepth 100000 in
theorem c_X4_calm (l : Launch) (env : Ev) (s0 : Nat) (X : va_W) (u : St) (a0 : Nat) (_xa0 : Nat) (ha0 : At u 0 (0) a0) (hI : SI env u) (hNb : Nb u.2.1) : Met l yX4_calm [Cond.code yX4_calm cX4_calm 3 (some .int)] { frames := 0, cells := 0, slots := 0, locals := 0 } (va_Pc [.ref (a0)] (Pr env s0 X u)) (va_Qi (fun r u' => u = u' ∧ r = b2i (cCalm u.2.1)) (Po env s0 X) (fun q => s0 ≤ q)) 0 0 (fun q => s0 ≤ q) := by
  refine Met.ofW (cc := cX4_calm) (maxL := 3) (ret := (some .int)) (by decide) rfl ?_
  intro p e s m args below meth c s₁ B hml hv
  obtain ⟨rfl, hv⟩ := hv
  have hx := B.exec
  have hb := B.bytes
  have hr := B.returns
  have hts : ∀ ww ∈ TT, ww.before #[.ref (a0)] s = true := fun ww hw => hv.2.1 ww hw _
  have hown : s.vm.findClass RX4 = some m.cls := findClass_of_methodNamed B.named
  have hlocks := B.notSynchronized
  have hF : CallFix p m c cX4_calm 3 s #[.ref (a0)] TT RX4 := ⟨hx, hb, hml, hown, hts⟩
  have hB := Bd.entry hv
  have hl := lv_entry ([.ref (a0)]) (n := 3) (Nat.le_of_ble_eq_true rfl)
  rw [lg_entry_eq]
  generalize (lg_sl ([.ref (a0)]) ++ List.replicate (3 - (lg_sl ([.ref (a0)])).length) Slot.unset).toArray = ls at hl ⊢
  have hl : lv_has ls 3 [(0, .ref (a0))] := hl
  have hn4 := hI.nst
  refine lv_iconst (v := nI 0) hx hb dX4_calm_0 (by decide) ?_
  refine lv_istore_n (lv' := [(1, .int (nI (0))), (0, .ref (a0))]) hx hb dX4_calm_1 rfl hl (by decide) rfl (fun ls hl => ?_)
  refine wloopH (σ := Heap × List Loc × Array Slot) (G := fun x => W p l e _ s m _ below meth c x.1 x.2.1 _ _ _ (F0 m 2 x.2.2 [])) (P := fun i_1 x => (∀ q, q < i_1 → cCaR u.2.1 q = true) ∧ Bd env s0 X u s x.1 x.2.1 ∧ lv_has x.2.2 3 [(0, .ref (a0)), (1, .int (nI (i_1)))]) (N := gN u.2.1 0 0 0) ?_ 0 (_, _, ls) (Nat.zero_le _) ⟨(fun q h => absurd h (Nat.not_lt_zero q)), hB, lv_sub hl [1, 0] rfl⟩
  rintro i_1 ⟨H, locs, ls⟩ hi_2 ⟨hv_3, hB, hl⟩ ih2
  replace hB : Bd env s0 X u s H locs := hB
  replace hl : lv_has ls 3 [(0, .ref (a0)), (1, .int (nI (i_1)))] := hl
  show W p l e _ s m _ below meth c H locs _ _ _ (F0 m 2 ls [])
  have := hNb 0 0 0
  refine lv_iload_n hx hb dX4_calm_2 rfl (lv_at hl 1 rfl) ?_
  refine lv_aload_n hx hb dX4_calm_3 rfl (lv_at hl 0 rfl) ?_
  refine w_get (v := .int (nI (gN u.2.1 0 (0) (0)))) (fk := 1) hF hB ha0 (cn_0 env u (0)) rfl in_X4 (by decide) tw_1_82 rfl rfl dX4_calm_4 ?_
  refine w_icge_n (tgt := 59) (by omega) (by have := hNb 0 (0) (0); omega) hx hb dX4_calm_7 (by decide) (fun c_4 => ?_) (fun c_4 => ?_)
  · refine lv_iconst (v := nI 1) hx hb dX4_calm_59 (by decide) ?_
    exact w_iret (v := nI 1) hF hr hlocks hB (⟨rfl, b2i_c1 (allN_t (fun q hq => hv_3 q (by omega)))⟩) dX4_calm_60
  · refine lv_iconst (v := nI 0) hx hb dX4_calm_10 (by decide) ?_
    refine lv_istore_n (lv' := [(2, .int (nI (0))), (0, .ref (a0)), (1, .int (nI (i_1)))]) hx hb dX4_calm_11 rfl hl (by decide) rfl (fun ls hl => ?_)
    refine wloopH (σ := Heap × List Loc × Array Slot) (G := fun x => W p l e _ s m _ below meth c x.1 x.2.1 _ _ _ (F0 m 12 x.2.2 [])) (P := fun i_5 x => (∀ q, q < i_5 → cCaQ u.2.1 i_1 q = true) ∧ Bd env s0 X u s x.1 x.2.1 ∧ lv_has x.2.2 3 [(0, .ref (a0)), (1, .int (nI (i_1))), (2, .int (nI (i_5)))]) (N := gN u.2.1 0 0 0) ?_ 0 (_, _, ls) (Nat.zero_le _) ⟨(fun q h => absurd h (Nat.not_lt_zero q)), hB, lv_sub hl [1, 2, 0] rfl⟩
    rintro i_5 ⟨H, locs, ls⟩ hi_6 ⟨hv_7, hB, hl⟩ ih12
    replace hB : Bd env s0 X u s H locs := hB
    replace hl : lv_has ls 3 [(0, .ref (a0)), (1, .int (nI (i_1))), (2, .int (nI (i_5)))] := hl
    show W p l e _ s m _ below meth c H locs _ _ _ (F0 m 12 ls [])
    have := hNb 0 0 0
    refine lv_iload_n hx hb dX4_calm_12 rfl (lv_at hl 2 rfl) ?_
    refine lv_aload_n hx hb dX4_calm_13 rfl (lv_at hl 0 rfl) ?_
    refine w_get (v := .int (nI (gN u.2.1 0 (0) (0)))) (fk := 1) hF hB ha0 (cn_0 env u (0)) rfl in_X4 (by decide) tw_1_82 rfl rfl dX4_calm_14 ?_
    refine w_icge_n (tgt := 53) (by omega) (by have := hNb 0 (0) (0); omega) hx hb dX4_calm_17 (by decide) (fun c_8 => ?_) (fun c_8 => ?_)
    · refine lv_iinc (v := nI (i_1 + 1)) (lv' := [(1, .int (nI (i_1 + 1))), (0, .ref (a0)), (2, .int (nI (i_5)))]) hx hb dX4_calm_53 hl (k := 1) rfl (nI_add _ _) (by decide) rfl (fun ls hl => ?_)
      refine lv_goto (tgt := 2) hx hb dX4_calm_56 (by decide) ?_
      exact ih2 (H, locs, ls) (by omega) ⟨lt_st hv_3 (allN_t (fun q hq => hv_7 q (by omega))), hB, by exact lv_sub hl [1, 0] rfl⟩
    · refine lv_aload_n hx hb dX4_calm_20 rfl (lv_at hl 0 rfl) ?_
      refine w_get (v := .ref (sA u 1 (0))) (fk := 0) hF hB ha0 (cn_0 env u (0)) rfl in_X4 (by decide) tw_1_81 rfl rfl dX4_calm_21 ?_
      refine lv_iload_n hx hb dX4_calm_24 rfl (lv_at hl 1 rfl) ?_
      refine w_aldS hF hB ⟨hI.k1, rfl⟩ (cn_1 env u (0)) (by omega) rfl (by decide) dX4_calm_25 ?_
      refine w_getN (v := .ref (sA u 6 (i_1))) (fk := 1) hF hB ⟨(hI.k5 (by omega)), rfl⟩ (cn_5 env u (i_1)) rfl in_X1 (by decide) tw_1_67 rfl rfl dX4_calm_26 ?_
      refine lv_iload_n hx hb dX4_calm_29 rfl (lv_at hl 2 rfl) ?_
      refine w_iald (v := .int (nI (gN u.2.1 6 (i_1) (i_5)))) hF hB ⟨(hI.k6 (by omega)), rfl⟩ (cn_6 env u (i_1)) (by omega) rfl (by decide) dX4_calm_30 ?_
      refine lv_aload_n hx hb dX4_calm_31 rfl (lv_at hl 0 rfl) ?_
      refine w_get (v := .ref (sA u 1 (0))) (fk := 0) hF hB ha0 (cn_0 env u (0)) rfl in_X4 (by decide) tw_1_81 rfl rfl dX4_calm_32 ?_
      refine lv_iload_n hx hb dX4_calm_35 rfl (lv_at hl 2 rfl) ?_
      refine w_aldS hF hB ⟨hI.k1, rfl⟩ (cn_1 env u (0)) (by omega) rfl (by decide) dX4_calm_36 ?_
      refine w_getN (v := .ref (sA u 6 (i_5))) (fk := 1) hF hB ⟨(hI.k5 (by omega)), rfl⟩ (cn_5 env u (i_5)) rfl in_X1 (by decide) tw_1_67 rfl rfl dX4_calm_37 ?_
      refine lv_iload_n hx hb dX4_calm_40 rfl (lv_at hl 2 rfl) ?_
      refine w_iald (v := .int (nI (gN u.2.1 6 (i_5) (i_5)))) hF hB ⟨(hI.k6 (by omega)), rfl⟩ (cn_6 env u (i_5)) (by omega) rfl (by decide) dX4_calm_41 ?_
      refine w_iceq_n (tgt := 47) (by have := hNb 6 (i_1) (i_5); omega) (by have := hNb 6 (i_5) (i_5); omega) hx hb dX4_calm_42 (by decide) (fun c_9 => ?_) (fun c_9 => ?_)
      · refine lv_iinc (v := nI (i_5 + 1)) (lv' := [(2, .int (nI (i_5 + 1))), (0, .ref (a0)), (1, .int (nI (i_1)))]) hx hb dX4_calm_47 hl (k := 2) rfl (nI_add _ _) (by decide) rfl (fun ls hl => ?_)
        refine lv_goto (tgt := 12) hx hb dX4_calm_50 (by decide) ?_
        exact ih12 (H, locs, ls) (by omega) ⟨lt_st hv_7 (by simp [cCaQ, c_9]), hB, by exact lv_sub hl [1, 2, 0] rfl⟩
      · refine lv_iconst (v := nI 0) hx hb dX4_calm_45 (by decide) ?_
        exact w_iret (v := nI 0) hF hr hlocks hB (⟨rfl, b2i_c0 (allN_f c_4 (allN_f c_8 (by simp [cCaQ, c_9])))⟩) dX4_calm_46

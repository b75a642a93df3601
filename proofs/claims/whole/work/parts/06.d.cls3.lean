set_option maxHeartbeats 4000000 in
set_option maxRecDepth 100000 in
theorem c_X4_hasHome (l : Launch) (env : Ev) (s0 : Nat) (X : va_W) (u : St) (a0 : Nat) (_xa0 : Nat) (ha0 : At u 0 (0) a0) (a1 : Nat) (t : Nat) (ha1 : At u 8 (t) a1) (a2 : Nat) (w : Nat) (ha2 : At u 5 (w) a2) (hI : SI env u) (hNb : Nb u.2.1) : Met l yX4_hasHome [Cond.code yX4_hasHome cX4_hasHome 4 (some .boolean)] { frames := 3, cells := 0, slots := 0, locals := 64 } (va_Pc [.ref (a0), .ref (a1), .ref (a2)] (Pr env s0 X u)) (va_Qi (fun r u' => u = u' ∧ r = b2i (cHasHome u.2.1 t w)) (Po env s0 X) (fun q => s0 ≤ q)) 0 0 (fun q => s0 ≤ q) := by
  refine Met.ofW (cc := cX4_hasHome) (maxL := 4) (ret := (some .boolean)) (by decide) rfl ?_
  intro p e s m args below meth c s₁ B hml hv
  obtain ⟨rfl, hv⟩ := hv
  have hx := B.exec
  have hb := B.bytes
  have hr := B.returns
  have hts : ∀ ww ∈ TT, ww.before #[.ref (a0), .ref (a1), .ref (a2)] s = true := fun ww hw => hv.2.1 ww hw _
  have hown : s.vm.findClass RX4 = some m.cls := findClass_of_methodNamed B.named
  have hlocks := B.notSynchronized
  have hF : CallFix p m c cX4_hasHome 4 s #[.ref (a0), .ref (a1), .ref (a2)] TT RX4 := ⟨hx, hb, hml, hown, hts⟩
  have hB := Bd.entry hv
  have hl := lv_entry ([.ref (a0), .ref (a1), .ref (a2)]) (n := 4) (Nat.le_of_ble_eq_true rfl)
  rw [lg_entry_eq]
  generalize (lg_sl ([.ref (a0), .ref (a1), .ref (a2)]) ++ List.replicate (4 - (lg_sl ([.ref (a0), .ref (a1), .ref (a2)])).length) Slot.unset).toArray = ls at hl ⊢
  have hl : lv_has ls 4 [(0, .ref (a0)), (1, .ref (a1)), (2, .ref (a2))] := hl
  refine lv_iconst (v := nI 0) hx hb dX4_hasHome_0 (by decide) ?_
  refine lv_istore_n (lv' := [(3, .int (nI (0))), (0, .ref (a0)), (1, .ref (a1)), (2, .ref (a2))]) hx hb dX4_hasHome_1 rfl hl (by decide) rfl (fun ls hl => ?_)
  refine wloopH (σ := Heap × List Loc × Array Slot) (G := fun x => W p l e _ s m _ below meth c x.1 x.2.1 _ _ _ (F0 m 2 x.2.2 [])) (P := fun i_1 x => (∀ j, j < i_1 → cPlQ u.2.1 t w j = false) ∧ Bd env s0 X u s x.1 x.2.1 ∧ lv_has x.2.2 4 [(0, .ref (a0)), (1, .ref (a1)), (2, .ref (a2)), (3, .int (nI (i_1)))]) (N := gN u.2.1 3 0 0) ?_ 0 (_, _, ls) (Nat.zero_le _) ⟨(fun q h => absurd h (Nat.not_lt_zero q)), hB, lv_sub hl [1, 2, 3, 0] rfl⟩
  rintro i_1 ⟨H, locs, ls⟩ hi_2 ⟨hv_3, hB, hl⟩ ih2
  replace hB : Bd env s0 X u s H locs := hB
  replace hl : lv_has ls 4 [(0, .ref (a0)), (1, .ref (a1)), (2, .ref (a2)), (3, .int (nI (i_1)))] := hl
  show W p l e _ s m _ below meth c H locs _ _ _ (F0 m 2 ls [])
  have := hNb 3 0 0
  refine lv_iload_n hx hb dX4_hasHome_2 rfl (lv_at hl 3 rfl) ?_
  refine lv_aload_n hx hb dX4_hasHome_3 rfl (lv_at hl 0 rfl) ?_
  refine w_get (v := .ref (sA u 2 (0))) (fk := 3) hF hB ha0 (cn_0 env u (0)) rfl in_X4 (by decide) tw_1_84 rfl rfl dX4_hasHome_4 ?_
  refine w_ci (r_V (As := []) (rest := [.int (nI (i_1))]) hF hB (c_Jx4a65c_size_8abf5 l env s0 X u (sA u 2 (0)) (0) (⟨(hI.k2 (by decide)), rfl⟩) ) cv_Jx4a65c_size_8abf5 tw_1_116 ⟨rfl, rfl, by decide, by decide⟩ (hB.recv ⟨(hI.k2 (by decide)), rfl⟩ (cn_2 env u (0)) rfl) rfl hl.1 rfl (lv_room (Nat.le_of_ble_eq_true rfl)) dX4_hasHome_7 ⟨Nat.le_of_ble_eq_true rfl, Nat.le_of_ble_eq_true rfl⟩) hB (fun r_4 u_6 H locs hq_5 hB => ?_)
  obtain ⟨rfl, rfl⟩ := hq_5
  refine w_icge_n (tgt := 40) (by omega) (by have := hNb 3 (0) 0; omega) hx hb dX4_hasHome_10 (by decide) (fun c_7 => ?_) (fun c_7 => ?_)
  · refine lv_iconst (v := nI 0) hx hb dX4_hasHome_40 (by decide) ?_
    exact w_zret (v := nI 0) hF hr rfl hlocks hB (⟨rfl, b2i_c0 (anyN_f (fun q hq => hv_3 q (by omega)))⟩) dX4_hasHome_41
  · refine lv_aload_n hx hb dX4_hasHome_13 rfl (lv_at hl 1 rfl) ?_
    refine lv_aload_n hx hb dX4_hasHome_14 rfl (lv_at hl 0 rfl) ?_
    refine w_get (v := .ref (sA u 2 (0))) (fk := 3) hF hB ha0 (cn_0 env u (0)) rfl in_X4 (by decide) tw_1_84 rfl rfl dX4_hasHome_15 ?_
    refine lv_iload_n hx hb dX4_hasHome_18 rfl (lv_at hl 3 rfl) ?_
    refine w_cq (r_V (As := [.int (nI (i_1))]) (rest := [.ref (a1)]) hF hB (c_Jx4a65c_get_915e3 l env s0 X u (sA u 2 (0)) (0) (⟨(hI.k2 (by decide)), rfl⟩) (i_1) hNb (hI.get (by decide) c_7).1 c_7 (hI.get (by decide) c_7).2.1 (hI.get (by decide) c_7).2.2) cv_Jx4a65c_get_915e3 tw_2_42 ⟨rfl, rfl, by decide, by decide⟩ (hB.recv ⟨(hI.k2 (by decide)), rfl⟩ (cn_2 env u (0)) rfl) rfl hl.1 rfl (lv_room (Nat.le_of_ble_eq_true rfl)) dX4_hasHome_19 ⟨Nat.le_of_ble_eq_true rfl, Nat.le_of_ble_eq_true rfl⟩) hB (fun r_8 u_10 H locs hq_9 hB => ?_)
    obtain ⟨rfl, rfl⟩ := hq_9
    rw [hI.e0 c_7]
    show W p l e _ s m _ below meth c H locs _ _ _ (F0 m _ ls [.ref (sA u 4 (i_1)), .ref (a1)])
    refine w_cast hF hB tw_1_120 tw_4_105 (hB.recv ⟨(hI.k4 c_7), rfl⟩ (cn_4 env u (i_1)) rfl) dX4_hasHome_22 ?_
    refine lv_aload_n hx hb dX4_hasHome_25 rfl (lv_at hl 2 rfl) ?_
    refine w_ci (r_S (As := [.ref (a1), .ref (sA u 4 (i_1)), .ref (a2)]) (rest := []) hF hB (c_X4_isPlainOf l env s0 X u (a1) (t) (ha1) (sA u 4 (i_1)) (i_1) (⟨(hI.k4 c_7), rfl⟩) (a2) (w) (ha2) hI hNb) cs_X4_isPlainOf tw_2_122 ⟨rfl, rfl, by decide, by decide⟩ rfl hl.1 rfl (lv_room (by decide)) dX4_hasHome_26 ⟨Nat.le_of_ble_eq_true rfl, Nat.le_of_ble_eq_true rfl⟩) hB (fun r_11 u_13 H locs hq_12 hB => ?_)
    obtain ⟨rfl, rfl⟩ := hq_12
    refine w_ifeq_b (tgt := 34) hx hb dX4_hasHome_29 (by decide) (fun c_14 => ?_) (fun c_14 => ?_)
    · refine lv_iinc (v := nI (i_1 + 1)) (lv' := [(3, .int (nI (i_1 + 1))), (0, .ref (a0)), (1, .ref (a1)), (2, .ref (a2))]) hx hb dX4_hasHome_34 hl (k := 3) rfl (nI_add _ _) (by decide) rfl (fun ls hl => ?_)
      refine lv_goto (tgt := 2) hx hb dX4_hasHome_37 (by decide) ?_
      exact ih2 (H, locs, ls) (by omega) ⟨lt_st hv_3 c_14, hB, by exact lv_sub hl [1, 2, 3, 0] rfl⟩
    · refine lv_iconst (v := nI 1) hx hb dX4_hasHome_32 (by decide) ?_
      exact w_zret (v := nI 1) hF hr rfl hlocks hB (⟨rfl, b2i_c1 (anyN_t c_7 c_14)⟩) dX4_hasHome_33
set_option maxHeartbeats 4000000 in
set_option maxRecDepth 100000 in
theorem c_X4_hasHomesElsewhere (l : Launch) (env : Ev) (s0 : Nat) (X : va_W) (u : St) (a0 : Nat) (_xa0 : Nat) (ha0 : At u 0 (0) a0) (a1 : Nat) (t : Nat) (ha1 : At u 8 (t) a1) (hI : SI env u) (hNb : Nb u.2.1) : Met l yX4_hasHomesElsewhere [Cond.code yX4_hasHomesElsewhere cX4_hasHomesElsewhere 3 (some .boolean)] { frames := 4, cells := 0, slots := 0, locals := 87 } (va_Pc [.ref (a0), .ref (a1)] (Pr env s0 X u)) (va_Qi (fun r u' => u = u' ∧ r = b2i (cElse u.2.1 t)) (Po env s0 X) (fun q => s0 ≤ q)) 0 0 (fun q => s0 ≤ q) := by
  refine Met.ofW (cc := cX4_hasHomesElsewhere) (maxL := 3) (ret := (some .boolean)) (by decide) rfl ?_
  intro p e s m args below meth c s₁ B hml hv
  obtain ⟨rfl, hv⟩ := hv
  have hx := B.exec
  have hb := B.bytes
  have hr := B.returns
  have hts : ∀ ww ∈ TT, ww.before #[.ref (a0), .ref (a1)] s = true := fun ww hw => hv.2.1 ww hw _
  have hown : s.vm.findClass RX4 = some m.cls := findClass_of_methodNamed B.named
  have hlocks := B.notSynchronized
  have hF : CallFix p m c cX4_hasHomesElsewhere 3 s #[.ref (a0), .ref (a1)] TT RX4 := ⟨hx, hb, hml, hown, hts⟩
  have hB := Bd.entry hv
  have hl := lv_entry ([.ref (a0), .ref (a1)]) (n := 3) (Nat.le_of_ble_eq_true rfl)
  rw [lg_entry_eq]
  generalize (lg_sl ([.ref (a0), .ref (a1)]) ++ List.replicate (3 - (lg_sl ([.ref (a0), .ref (a1)])).length) Slot.unset).toArray = ls at hl ⊢
  have hl : lv_has ls 3 [(0, .ref (a0)), (1, .ref (a1))] := hl
  have hn4 := hI.nst
  refine lv_iconst (v := nI 0) hx hb dX4_hasHomesElsewhere_0 (by decide) ?_
  refine lv_istore_n (lv' := [(2, .int (nI (0))), (0, .ref (a0)), (1, .ref (a1))]) hx hb dX4_hasHomesElsewhere_1 rfl hl (by decide) rfl (fun ls hl => ?_)
  refine wloopH (σ := Heap × List Loc × Array Slot) (G := fun x => W p l e _ s m _ below meth c x.1 x.2.1 _ _ _ (F0 m 2 x.2.2 [])) (P := fun i_1 x => (∀ j, j < i_1 → cHeQ u.2.1 t j = false) ∧ Bd env s0 X u s x.1 x.2.1 ∧ lv_has x.2.2 3 [(0, .ref (a0)), (1, .ref (a1)), (2, .int (nI (i_1)))]) (N := gN u.2.1 0 0 0) ?_ 0 (_, _, ls) (Nat.zero_le _) ⟨(fun q h => absurd h (Nat.not_lt_zero q)), hB, lv_sub hl [1, 2, 0] rfl⟩
  rintro i_1 ⟨H, locs, ls⟩ hi_2 ⟨hv_3, hB, hl⟩ ih2
  replace hB : Bd env s0 X u s H locs := hB
  replace hl : lv_has ls 3 [(0, .ref (a0)), (1, .ref (a1)), (2, .int (nI (i_1)))] := hl
  show W p l e _ s m _ below meth c H locs _ _ _ (F0 m 2 ls [])
  have := hNb 0 0 0
  refine lv_iload_n hx hb dX4_hasHomesElsewhere_2 rfl (lv_at hl 2 rfl) ?_
  refine lv_aload_n hx hb dX4_hasHomesElsewhere_3 rfl (lv_at hl 0 rfl) ?_
  refine w_get (v := .int (nI (gN u.2.1 0 (0) (0)))) (fk := 1) hF hB ha0 (cn_0 env u (0)) rfl in_X4 (by decide) tw_1_82 rfl rfl dX4_hasHomesElsewhere_4 ?_
  refine w_icge_n (tgt := 45) (by omega) (by have := hNb 0 (0) (0); omega) hx hb dX4_hasHomesElsewhere_7 (by decide) (fun c_4 => ?_) (fun c_4 => ?_)
  · refine lv_iconst (v := nI 0) hx hb dX4_hasHomesElsewhere_45 (by decide) ?_
    exact w_zret (v := nI 0) hF hr rfl hlocks hB (⟨rfl, b2i_c0 (anyN_f (fun q hq => hv_3 q (by omega)))⟩) dX4_hasHomesElsewhere_46
  · refine lv_aload_n hx hb dX4_hasHomesElsewhere_10 rfl (lv_at hl 0 rfl) ?_
    refine w_get (v := .ref (sA u 1 (0))) (fk := 0) hF hB ha0 (cn_0 env u (0)) rfl in_X4 (by decide) tw_1_81 rfl rfl dX4_hasHomesElsewhere_11 ?_
    refine lv_iload_n hx hb dX4_hasHomesElsewhere_14 rfl (lv_at hl 2 rfl) ?_
    refine w_aldS hF hB ⟨hI.k1, rfl⟩ (cn_1 env u (0)) (by omega) rfl (by decide) dX4_hasHomesElsewhere_15 ?_
    refine lv_aload_n hx hb dX4_hasHomesElsewhere_16 rfl (lv_at hl 1 rfl) ?_
    refine w_getN (v := .ref (sA u 5 (gN u.2.1 26 (t) 0))) (fk := 1) hF hB ha1 (cn_8 env u (t)) rfl in_X3 (by decide) tw_1_217 rfl rfl dX4_hasHomesElsewhere_17 ?_
    refine w_acmp_eq (tgt := 39) hx hb dX4_hasHomesElsewhere_20 (by decide) (fun c_5 => ?_) (fun c_5 => ?_)
    · rw [hB.eqi ⟨(hI.k5 (by omega)), rfl⟩ ⟨(hI.k5 (hI.tx ha1.1).2), rfl⟩] at c_5
      refine lv_iinc (v := nI (i_1 + 1)) (lv' := [(2, .int (nI (i_1 + 1))), (0, .ref (a0)), (1, .ref (a1))]) hx hb dX4_hasHomesElsewhere_39 hl (k := 2) rfl (nI_add _ _) (by decide) rfl (fun ls hl => ?_)
      refine lv_goto (tgt := 2) hx hb dX4_hasHomesElsewhere_42 (by decide) ?_
      exact ih2 (H, locs, ls) (by omega) ⟨lt_st hv_3 (by simp only [cHeQ]; simp [c_5]), hB, by exact lv_sub hl [1, 2, 0] rfl⟩
    · rw [hB.eqi ⟨(hI.k5 (by omega)), rfl⟩ ⟨(hI.k5 (hI.tx ha1.1).2), rfl⟩] at c_5
      refine lv_aload_n hx hb dX4_hasHomesElsewhere_23 rfl (lv_at hl 0 rfl) ?_
      refine lv_aload_n hx hb dX4_hasHomesElsewhere_24 rfl (lv_at hl 1 rfl) ?_
      refine lv_aload_n hx hb dX4_hasHomesElsewhere_25 rfl (lv_at hl 0 rfl) ?_
      refine w_get (v := .ref (sA u 1 (0))) (fk := 0) hF hB ha0 (cn_0 env u (0)) rfl in_X4 (by decide) tw_1_81 rfl rfl dX4_hasHomesElsewhere_26 ?_
      refine lv_iload_n hx hb dX4_hasHomesElsewhere_29 rfl (lv_at hl 2 rfl) ?_
      refine w_aldS hF hB ⟨hI.k1, rfl⟩ (cn_1 env u (0)) (by omega) rfl (by decide) dX4_hasHomesElsewhere_30 ?_
      refine w_ci (r_V (As := [.ref (a1), .ref (sA u 5 (i_1))]) (rest := []) hF hB (c_X4_hasHome l env s0 X u (a0) (0) (ha0) (a1) (t) (ha1) (sA u 5 (i_1)) (i_1) (⟨(hI.k5 (by omega)), rfl⟩) hI hNb) cv_X4_hasHome tw_2_133 ⟨rfl, rfl, by decide, by decide⟩ (hB.recv ha0 (cn_0 env u (0)) rfl) rfl hl.1 rfl (lv_room (by decide)) dX4_hasHomesElsewhere_31 ⟨Nat.le_of_ble_eq_true rfl, Nat.le_of_ble_eq_true rfl⟩) hB (fun r_6 u_8 H locs hq_7 hB => ?_)
      obtain ⟨rfl, rfl⟩ := hq_7
      refine w_ifeq_b (tgt := 39) hx hb dX4_hasHomesElsewhere_34 (by decide) (fun c_9 => ?_) (fun c_9 => ?_)
      · refine lv_iinc (v := nI (i_1 + 1)) (lv' := [(2, .int (nI (i_1 + 1))), (0, .ref (a0)), (1, .ref (a1))]) hx hb dX4_hasHomesElsewhere_39 hl (k := 2) rfl (nI_add _ _) (by decide) rfl (fun ls hl => ?_)
        refine lv_goto (tgt := 2) hx hb dX4_hasHomesElsewhere_42 (by decide) ?_
        exact ih2 (H, locs, ls) (by omega) ⟨lt_st hv_3 (by simp only [cHeQ, c_9]; simp), hB, by exact lv_sub hl [1, 2, 0] rfl⟩
      · refine lv_iconst (v := nI 1) hx hb dX4_hasHomesElsewhere_37 (by decide) ?_
        exact w_zret (v := nI 1) hF hr rfl hlocks hB (⟨rfl, b2i_c1 (anyN_t c_4 (by simp [cHeQ, c_5, c_9]))⟩) dX4_hasHomesElsewhere_38
set_option maxHeartbeats 4000000 in
set_option maxRecDepth 100000 in
theorem c_X4_allFree (l : Launch) (env : Ev) (s0 : Nat) (X : va_W) (u : St) (a0 : Nat) (_xa0 : Nat) (ha0 : At u 0 (0) a0) (a1 : Nat) (t : Nat) (ha1 : At u 8 (t) a1) (a2 : Nat) (w : Nat) (ha2 : At u 5 (w) a2) (hI : SI env u) (hNb : Nb u.2.1) (hw : w < 4) : Met l yX4_allFree [Cond.code yX4_allFree cX4_allFree 5 (some .boolean)] { frames := 4, cells := 0, slots := 0, locals := 88 } (va_Pc [.ref (a0), .ref (a1), .ref (a2)] (Pr env s0 X u)) (va_Qi (fun r u' => u = u' ∧ r = b2i (cAllFree u.2.1 t w)) (Po env s0 X) (fun q => s0 ≤ q)) 0 0 (fun q => s0 ≤ q) := by
  refine Met.ofW (cc := cX4_allFree) (maxL := 5) (ret := (some .boolean)) (by decide) rfl ?_
  intro p e s m args below meth c s₁ B hml hv
  obtain ⟨rfl, hv⟩ := hv
  have hx := B.exec
  have hb := B.bytes
  have hr := B.returns
  have hts : ∀ ww ∈ TT, ww.before #[.ref (a0), .ref (a1), .ref (a2)] s = true := fun ww hw => hv.2.1 ww hw _
  have hown : s.vm.findClass RX4 = some m.cls := findClass_of_methodNamed B.named
  have hlocks := B.notSynchronized
  have hF : CallFix p m c cX4_allFree 5 s #[.ref (a0), .ref (a1), .ref (a2)] TT RX4 := ⟨hx, hb, hml, hown, hts⟩
  have hB := Bd.entry hv
  have hl := lv_entry ([.ref (a0), .ref (a1), .ref (a2)]) (n := 5) (Nat.le_of_ble_eq_true rfl)
  rw [lg_entry_eq]
  generalize (lg_sl ([.ref (a0), .ref (a1), .ref (a2)]) ++ List.replicate (5 - (lg_sl ([.ref (a0), .ref (a1), .ref (a2)])).length) Slot.unset).toArray = ls at hl ⊢
  have hl : lv_has ls 5 [(0, .ref (a0)), (1, .ref (a1)), (2, .ref (a2))] := hl
  refine lv_iconst (v := nI 0) hx hb dX4_allFree_0 (by decide) ?_
  refine lv_istore_n (lv' := [(3, .int (nI (0))), (0, .ref (a0)), (1, .ref (a1)), (2, .ref (a2))]) hx hb dX4_allFree_1 rfl hl (by decide) rfl (fun ls hl => ?_)
  refine wloopH (σ := Heap × List Loc × Array Slot) (G := fun x => W p l e _ s m _ below meth c x.1 x.2.1 _ _ _ (F0 m 2 x.2.2 [])) (P := fun i_1 x => (∀ j, j < i_1 → cAfQ u.2.1 t w j = true) ∧ Bd env s0 X u s x.1 x.2.1 ∧ lv_has x.2.2 5 [(0, .ref (a0)), (1, .ref (a1)), (2, .ref (a2)), (3, .int (nI (i_1)))]) (N := gN u.2.1 3 0 0) ?_ 0 (_, _, ls) (Nat.zero_le _) ⟨(fun q h => absurd h (Nat.not_lt_zero q)), hB, lv_sub hl [1, 2, 3, 0] rfl⟩
  rintro i_1 ⟨H, locs, ls⟩ hi_2 ⟨hv_3, hB, hl⟩ ih2
  replace hB : Bd env s0 X u s H locs := hB
  replace hl : lv_has ls 5 [(0, .ref (a0)), (1, .ref (a1)), (2, .ref (a2)), (3, .int (nI (i_1)))] := hl
  show W p l e _ s m _ below meth c H locs _ _ _ (F0 m 2 ls [])
  have := hNb 3 0 0
  refine lv_iload_n hx hb dX4_allFree_2 rfl (lv_at hl 3 rfl) ?_
  refine lv_aload_n hx hb dX4_allFree_3 rfl (lv_at hl 0 rfl) ?_
  refine w_get (v := .ref (sA u 2 (0))) (fk := 3) hF hB ha0 (cn_0 env u (0)) rfl in_X4 (by decide) tw_1_84 rfl rfl dX4_allFree_4 ?_
  refine w_ci (r_V (As := []) (rest := [.int (nI (i_1))]) hF hB (c_Jx4a65c_size_8abf5 l env s0 X u (sA u 2 (0)) (0) (⟨(hI.k2 (by decide)), rfl⟩) ) cv_Jx4a65c_size_8abf5 tw_1_116 ⟨rfl, rfl, by decide, by decide⟩ (hB.recv ⟨(hI.k2 (by decide)), rfl⟩ (cn_2 env u (0)) rfl) rfl hl.1 rfl (lv_room (Nat.le_of_ble_eq_true rfl)) dX4_allFree_7 ⟨Nat.le_of_ble_eq_true rfl, Nat.le_of_ble_eq_true rfl⟩) hB (fun r_4 u_6 H locs hq_5 hB => ?_)
  obtain ⟨rfl, rfl⟩ := hq_5
  refine w_icge_n (tgt := 54) (by omega) (by have := hNb 3 (0) 0; omega) hx hb dX4_allFree_10 (by decide) (fun c_7 => ?_) (fun c_7 => ?_)
  · refine lv_iconst (v := nI 1) hx hb dX4_allFree_54 (by decide) ?_
    exact w_zret (v := nI 1) hF hr rfl hlocks hB (⟨rfl, b2i_c1 (allN_t (fun q hq => hv_3 q (by omega)))⟩) dX4_allFree_55
  · refine lv_aload_n hx hb dX4_allFree_13 rfl (lv_at hl 0 rfl) ?_
    refine w_get (v := .ref (sA u 2 (0))) (fk := 3) hF hB ha0 (cn_0 env u (0)) rfl in_X4 (by decide) tw_1_84 rfl rfl dX4_allFree_14 ?_
    refine lv_iload_n hx hb dX4_allFree_17 rfl (lv_at hl 3 rfl) ?_
    refine w_cq (r_V (As := [.int (nI (i_1))]) (rest := []) hF hB (c_Jx4a65c_get_915e3 l env s0 X u (sA u 2 (0)) (0) (⟨(hI.k2 (by decide)), rfl⟩) (i_1) hNb (hI.get (by decide) c_7).1 c_7 (hI.get (by decide) c_7).2.1 (hI.get (by decide) c_7).2.2) cv_Jx4a65c_get_915e3 tw_2_42 ⟨rfl, rfl, by decide, by decide⟩ (hB.recv ⟨(hI.k2 (by decide)), rfl⟩ (cn_2 env u (0)) rfl) rfl hl.1 rfl (lv_room (by decide)) dX4_allFree_18 ⟨Nat.le_of_ble_eq_true rfl, Nat.le_of_ble_eq_true rfl⟩) hB (fun r_8 u_10 H locs hq_9 hB => ?_)
    obtain ⟨rfl, rfl⟩ := hq_9
    rw [hI.e0 c_7]
    show W p l e _ s m _ below meth c H locs _ _ _ (F0 m _ ls [.ref (sA u 4 (i_1))])
    refine w_cast hF hB tw_1_120 tw_4_105 (hB.recv ⟨(hI.k4 c_7), rfl⟩ (cn_4 env u (i_1)) rfl) dX4_allFree_21 ?_
    refine lv_astore (lv' := [(4, .ref (sA u 4 (i_1))), (0, .ref (a0)), (1, .ref (a1)), (2, .ref (a2)), (3, .int (nI (i_1)))]) hx hb dX4_allFree_24 hl (by decide) rfl (fun ls hl => ?_)
    refine lv_aload_n hx hb dX4_allFree_26 rfl (lv_at hl 2 rfl) ?_
    refine lv_aload hx hb dX4_allFree_27 (lv_at hl 0 rfl) ?_
    refine lv_aload_n hx hb dX4_allFree_29 rfl (lv_at hl 3 rfl) ?_
    refine w_ci (r_S (As := [.ref (a1), .ref (sA u 4 (i_1)), .ref (a2)]) (rest := []) hF hB (c_X4_isPlainOf l env s0 X u (a1) (t) (ha1) (sA u 4 (i_1)) (i_1) (⟨(hI.k4 c_7), rfl⟩) (a2) (w) (ha2) hI hNb) cs_X4_isPlainOf tw_2_122 ⟨rfl, rfl, by decide, by decide⟩ rfl hl.1 rfl (lv_room (by decide)) dX4_allFree_30 ⟨Nat.le_of_ble_eq_true rfl, Nat.le_of_ble_eq_true rfl⟩) hB (fun r_11 u_13 H locs hq_12 hB => ?_)
    obtain ⟨rfl, rfl⟩ := hq_12
    refine w_ifeq_b (tgt := 48) hx hb dX4_allFree_33 (by decide) (fun c_14 => ?_) (fun c_14 => ?_)
    · refine lv_iinc (v := nI (i_1 + 1)) (lv' := [(3, .int (nI (i_1 + 1))), (4, .ref (sA u 4 (i_1))), (0, .ref (a0)), (1, .ref (a1)), (2, .ref (a2))]) hx hb dX4_allFree_48 hl (k := 4) rfl (nI_add _ _) (by decide) rfl (fun ls hl => ?_)
      refine lv_goto (tgt := 2) hx hb dX4_allFree_51 (by decide) ?_
      exact ih2 (H, locs, ls) (by omega) ⟨lt_st hv_3 (by simp [cAfQ, c_14]), hB, by exact lv_sub hl [2, 3, 4, 0] rfl⟩
    · refine lv_aload_n hx hb dX4_allFree_36 rfl (lv_at hl 3 rfl) ?_
      refine lv_aload hx hb dX4_allFree_37 (lv_at hl 0 rfl) ?_
      refine lv_aload_n hx hb dX4_allFree_39 rfl (lv_at hl 2 rfl) ?_
      refine w_ci (r_VN (As := [.ref (sA u 4 (i_1)), .ref (a1)]) (rest := []) hF hB (c_X1_isFree l env s0 X u (a2) (w) (ha2) (sA u 4 (i_1)) (i_1) (⟨(hI.k4 c_7), rfl⟩) (a1) (t) (ha1) hI hNb hw) cv_X1_isFree tw_2_125 ⟨rfl, rfl, by decide, by decide⟩ (hB.recv ha2 (cn_5 env u (w)) rfl) rfl hl.1 rfl (lv_room (by decide)) dX4_allFree_40 ⟨Nat.le_of_ble_eq_true rfl, Nat.le_of_ble_eq_true rfl⟩) hB (fun r_15 u_17 H locs hq_16 hB => ?_)
      obtain ⟨rfl, rfl⟩ := hq_16
      refine w_ifne_b (tgt := 48) hx hb dX4_allFree_43 (by decide) (fun c_18 => ?_) (fun c_18 => ?_)
      · refine lv_iinc (v := nI (i_1 + 1)) (lv' := [(3, .int (nI (i_1 + 1))), (4, .ref (sA u 4 (i_1))), (0, .ref (a0)), (1, .ref (a1)), (2, .ref (a2))]) hx hb dX4_allFree_48 hl (k := 4) rfl (nI_add _ _) (by decide) rfl (fun ls hl => ?_)
        refine lv_goto (tgt := 2) hx hb dX4_allFree_51 (by decide) ?_
        exact ih2 (H, locs, ls) (by omega) ⟨lt_st hv_3 (by simp [cAfQ, c_14, c_18]), hB, by exact lv_sub hl [2, 3, 4, 0] rfl⟩
      · refine lv_iconst (v := nI 0) hx hb dX4_allFree_46 (by decide) ?_
        exact w_zret (v := nI 0) hF hr rfl hlocks hB (⟨rfl, b2i_c0 (allN_f c_7 (by simp [cAfQ, c_14, c_18]))⟩) dX4_allFree_47
set_option maxHeartbeats 4000000 in
set_option maxRecDepth 100000 in
theorem c_X4_isSafe (l : Launch) (env : Ev) (s0 : Nat) (X : va_W) (u : St) (a0 : Nat) (_xa0 : Nat) (ha0 : At u 0 (0) a0) (a1 : Nat) (t : Nat) (ha1 : At u 8 (t) a1) (hI : SI env u) (hNb : Nb u.2.1) : Met l yX4_isSafe [Cond.code yX4_isSafe cX4_isSafe 2 (some .boolean)] { frames := 1, cells := 0, slots := 0, locals := 20 } (va_Pc [.ref (a0), .ref (a1)] (Pr env s0 X u)) (va_Qi (fun r u' => u = u' ∧ r = b2i (cSafe u.2.1 t)) (Po env s0 X) (fun q => s0 ≤ q)) 0 0 (fun q => s0 ≤ q) := by
  refine Met.ofW (cc := cX4_isSafe) (maxL := 2) (ret := (some .boolean)) (by decide) rfl ?_
  intro p e s m args below meth c s₁ B hml hv
  obtain ⟨rfl, hv⟩ := hv
  have hx := B.exec
  have hb := B.bytes
  have hr := B.returns
  have hts : ∀ ww ∈ TT, ww.before #[.ref (a0), .ref (a1)] s = true := fun ww hw => hv.2.1 ww hw _
  have hown : s.vm.findClass RX4 = some m.cls := findClass_of_methodNamed B.named
  have hlocks := B.notSynchronized
  have hF : CallFix p m c cX4_isSafe 2 s #[.ref (a0), .ref (a1)] TT RX4 := ⟨hx, hb, hml, hown, hts⟩
  have hB := Bd.entry hv
  have hl := lv_entry ([.ref (a0), .ref (a1)]) (n := 2) (Nat.le_of_ble_eq_true rfl)
  rw [lg_entry_eq]
  generalize (lg_sl ([.ref (a0), .ref (a1)]) ++ List.replicate (2 - (lg_sl ([.ref (a0), .ref (a1)])).length) Slot.unset).toArray = ls at hl ⊢
  have hl : lv_has ls 2 [(0, .ref (a0)), (1, .ref (a1))] := hl
  refine lv_aload_n hx hb dX4_isSafe_0 rfl (lv_at hl 1 rfl) ?_
  refine w_ci (r_VN (As := []) (rest := []) hF hB (c_X3_hasCommit l env s0 X u (a1) (t) (ha1) hNb) cv_X3_hasCommit tw_3_30 ⟨rfl, rfl, by decide, by decide⟩ (hB.recv ha1 (cn_8 env u (t)) rfl) rfl hl.1 rfl (lv_room (by decide)) dX4_isSafe_1 ⟨Nat.le_of_ble_eq_true rfl, Nat.le_of_ble_eq_true rfl⟩) hB (fun r_1 u_3 H locs hq_2 hB => ?_)
  obtain ⟨rfl, rfl⟩ := hq_2
  refine w_ifeq_b (tgt := 22) hx hb dX4_isSafe_4 (by decide) (fun c_4 => ?_) (fun c_4 => ?_)
  · refine lv_iconst (v := nI 0) hx hb dX4_isSafe_22 (by decide) ?_
    exact w_zret (v := nI 0) hF hr rfl hlocks hB (⟨rfl, b2i_c0 (by simp [cSafe, c_4] <;> omega)⟩) dX4_isSafe_23
  · refine lv_aload_n hx hb dX4_isSafe_7 rfl (lv_at hl 1 rfl) ?_
    refine w_getN (v := .int (nI (gN u.2.1 20 (t) (0)))) (fk := 13) hF hB ha1 (cn_8 env u (t)) rfl in_X3 (by decide) tw_2_2 rfl rfl dX4_isSafe_8 ?_
    refine lv_aload_n hx hb dX4_isSafe_11 rfl (lv_at hl 0 rfl) ?_
    refine w_get (v := .int (nI (gN u.2.1 1 (0) (0)))) (fk := 2) hF hB ha0 (cn_0 env u (0)) rfl in_X4 (by decide) tw_1_83 rfl rfl dX4_isSafe_12 ?_
    refine w_iclt_n (tgt := 22) (by have := hNb 20 (t) (0); omega) (by have := hNb 1 (0) (0); omega) hx hb dX4_isSafe_15 (by decide) (fun c_5 => ?_) (fun c_5 => ?_)
    · refine lv_iconst (v := nI 0) hx hb dX4_isSafe_22 (by decide) ?_
      exact w_zret (v := nI 0) hF hr rfl hlocks hB (⟨rfl, b2i_c0 (by simp [cSafe, c_4, c_5] <;> omega)⟩) dX4_isSafe_23
    · refine lv_iconst (v := nI 1) hx hb dX4_isSafe_18 (by decide) ?_
      refine lv_goto (tgt := 23) hx hb dX4_isSafe_19 (by decide) ?_
      exact w_zret (v := nI 1) hF hr rfl hlocks hB (⟨rfl, b2i_c1 (by simp [cSafe, c_4, c_5] <;> omega)⟩) dX4_isSafe_23
set_option maxHeartbeats 4000000 in
set_option maxRecDepth 100000 in
theorem c_X4_isEverywhere (l : Launch) (env : Ev) (s0 : Nat) (X : va_W) (u : St) (a0 : Nat) (_xa0 : Nat) (ha0 : At u 0 (0) a0) (a1 : Nat) (t : Nat) (ha1 : At u 8 (t) a1) (hI : SI env u) (hNb : Nb u.2.1) (hn : 1 ≤ gN u.2.1 0 0 0) : Met l yX4_isEverywhere [Cond.code yX4_isEverywhere cX4_isEverywhere 2 (some .boolean)] { frames := 1, cells := 0, slots := 0, locals := 20 } (va_Pc [.ref (a0), .ref (a1)] (Pr env s0 X u)) (va_Qi (fun r u' => u = u' ∧ r = b2i (cEvery u.2.1 t)) (Po env s0 X) (fun q => s0 ≤ q)) 0 0 (fun q => s0 ≤ q) := by
  refine Met.ofW (cc := cX4_isEverywhere) (maxL := 2) (ret := (some .boolean)) (by decide) rfl ?_
  intro p e s m args below meth c s₁ B hml hv
  obtain ⟨rfl, hv⟩ := hv
  have hx := B.exec
  have hb := B.bytes
  have hr := B.returns
  have hts : ∀ ww ∈ TT, ww.before #[.ref (a0), .ref (a1)] s = true := fun ww hw => hv.2.1 ww hw _
  have hown : s.vm.findClass RX4 = some m.cls := findClass_of_methodNamed B.named
  have hlocks := B.notSynchronized
  have hF : CallFix p m c cX4_isEverywhere 2 s #[.ref (a0), .ref (a1)] TT RX4 := ⟨hx, hb, hml, hown, hts⟩
  have hB := Bd.entry hv
  have hl := lv_entry ([.ref (a0), .ref (a1)]) (n := 2) (Nat.le_of_ble_eq_true rfl)
  rw [lg_entry_eq]
  generalize (lg_sl ([.ref (a0), .ref (a1)]) ++ List.replicate (2 - (lg_sl ([.ref (a0), .ref (a1)])).length) Slot.unset).toArray = ls at hl ⊢
  have hl : lv_has ls 2 [(0, .ref (a0)), (1, .ref (a1))] := hl
  refine lv_aload_n hx hb dX4_isEverywhere_0 rfl (lv_at hl 1 rfl) ?_
  refine w_ci (r_VN (As := []) (rest := []) hF hB (c_X3_hasCommit l env s0 X u (a1) (t) (ha1) hNb) cv_X3_hasCommit tw_3_30 ⟨rfl, rfl, by decide, by decide⟩ (hB.recv ha1 (cn_8 env u (t)) rfl) rfl hl.1 rfl (lv_room (by decide)) dX4_isEverywhere_1 ⟨Nat.le_of_ble_eq_true rfl, Nat.le_of_ble_eq_true rfl⟩) hB (fun r_1 u_3 H locs hq_2 hB => ?_)
  obtain ⟨rfl, rfl⟩ := hq_2
  refine w_ifeq_b (tgt := 24) hx hb dX4_isEverywhere_4 (by decide) (fun c_4 => ?_) (fun c_4 => ?_)
  · refine lv_iconst (v := nI 0) hx hb dX4_isEverywhere_24 (by decide) ?_
    exact w_zret (v := nI 0) hF hr rfl hlocks hB (⟨rfl, b2i_c0 (by simp [cEvery, c_4] <;> omega)⟩) dX4_isEverywhere_25
  · refine lv_aload_n hx hb dX4_isEverywhere_7 rfl (lv_at hl 1 rfl) ?_
    refine w_getN (v := .int (nI (gN u.2.1 20 (t) (0)))) (fk := 13) hF hB ha1 (cn_8 env u (t)) rfl in_X3 (by decide) tw_2_2 rfl rfl dX4_isEverywhere_8 ?_
    refine lv_aload_n hx hb dX4_isEverywhere_11 rfl (lv_at hl 0 rfl) ?_
    refine w_get (v := .int (nI (gN u.2.1 0 (0) (0)))) (fk := 1) hF hB ha0 (cn_0 env u (0)) rfl in_X4 (by decide) tw_1_82 rfl rfl dX4_isEverywhere_12 ?_
    refine lv_iconst (v := nI 1) hx hb dX4_isEverywhere_15 (by decide) ?_
    refine w_isub_n (by omega) hx hb dX4_isEverywhere_16 ?_
    refine w_iclt_n (tgt := 24) (by have := hNb 20 (t) (0); omega) (by have := hNb 0 (0) (0); omega) hx hb dX4_isEverywhere_17 (by decide) (fun c_5 => ?_) (fun c_5 => ?_)
    · refine lv_iconst (v := nI 0) hx hb dX4_isEverywhere_24 (by decide) ?_
      exact w_zret (v := nI 0) hF hr rfl hlocks hB (⟨rfl, b2i_c0 (by simp [cEvery, c_4, c_5] <;> omega)⟩) dX4_isEverywhere_25
    · refine lv_iconst (v := nI 1) hx hb dX4_isEverywhere_20 (by decide) ?_
      refine lv_goto (tgt := 25) hx hb dX4_isEverywhere_21 (by decide) ?_
      exact w_zret (v := nI 1) hF hr rfl hlocks hB (⟨rfl, b2i_c1 (by simp [cEvery, c_4, c_5] <;> omega)⟩) dX4_isEverywhere_25

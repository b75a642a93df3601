set_option maxHeartbeats 4000000 in
set_option maxRecDepth 100000 in
theorem c_X4_makeCommitted (l : Launch) (env : Ev) (s0 : Nat) (X : va_W) (u : St) (a0 : Nat) (_xa0 : Nat) (ha0 : At u 0 (0) a0) (a1 : Nat) (t : Nat) (ha1 : At u 8 (t) a1) (hZ : SZ env u) (hNb : Nb u.2.1) (hok : Okm u.2.1) : Met l yX4_makeCommitted [Cond.code yX4_makeCommitted cX4_makeCommitted 2 none] { frames := 9, cells := kc (cMk u.2.1 t) - kc u.2.1, slots := ks (cMk u.2.1 t) - ks u.2.1, locals := 218 } (va_Pc [.ref (a0), .ref (a1)] (Pr env s0 X u)) (va_Qv (fun u' => ∃ ph, u' = (ph, cMk u.2.1 (t), u.2.2) ∧ SZ env (ph, cMk u.2.1 (t), u.2.2) ∧ Kp u (ph, cMk u.2.1 (t), u.2.2)) (Po env s0 X) (fun q => s0 ≤ q)) (kc (cMk u.2.1 t) - kc u.2.1) (ks (cMk u.2.1 t) - ks u.2.1) (fun q => s0 ≤ q) := by
  refine Met.ofW (cc := cX4_makeCommitted) (maxL := 2) (ret := none) (by decide) rfl ?_
  intro p e s m args below meth c s₁ B hml hv
  obtain ⟨rfl, hv⟩ := hv
  have hx := B.exec
  have hb := B.bytes
  have hr := B.returns
  have hts : ∀ ww ∈ TT, ww.before #[.ref (a0), .ref (a1)] s = true := fun ww hw => hv.2.1 ww hw _
  have hown : s.vm.findClass RX4 = some m.cls := findClass_of_methodNamed B.named
  have hlocks := B.notSynchronized
  have hF : CallFix p m c cX4_makeCommitted 2 s #[.ref (a0), .ref (a1)] TT RX4 := ⟨hx, hb, hml, hown, hts⟩
  have hB := Bd.entry hv
  have hl := lv_entry ([.ref (a0), .ref (a1)]) (n := 2) (Nat.le_of_ble_eq_true rfl)
  rw [lg_entry_eq]
  generalize (lg_sl ([.ref (a0), .ref (a1)]) ++ List.replicate (2 - (lg_sl ([.ref (a0), .ref (a1)])).length) Slot.unset).toArray = ls at hl ⊢
  have hl : lv_has ls 2 [(0, .ref (a0)), (1, .ref (a1))] := hl
  have hI := hZ.1
  have hn4 := hI.nst
  have hs := (hI.tx ha1.1).2
  have htt := (hI.tx ha1.1).1
  have hn2 := hI.ntx
  refine lv_aload_n hx hb dX4_makeCommitted_0 rfl (lv_at hl 1 rfl) ?_
  refine lv_iconst (v := nI 2) hx hb dX4_makeCommitted_1 (by decide) ?_
  refine w_putN (fk := 9) (v := .int (nI (2))) (ty := .int) hF hB ha1 (wC u (uN u.2.1 16 (t) (0) (2))) (cn_8 env u (t)) rfl in_X3 tyX3 tyX3_ok nmX3 (by decide) tw_1_236 rfl rfl (by decide +kernel) rfl rfl (Nat.le_of_ble_eq_true rfl) rfl rfl (cu_N16 env u (t) (2)) dX4_makeCommitted_2 (fun H locs hB => ?_)
  refine lv_aload_n hx hb dX4_makeCommitted_5 rfl (lv_at hl 1 rfl) ?_
  refine w_ci (r_VN (As := []) (rest := []) hF hB (c_X3_wroteAnything l env s0 X (wC u (uN u.2.1 16 (t) (0) (2))) (a1) (t) (ha1) (Nb.uN hNb (f := 16) (i := t) (j := 0) (v := 2) (by decide))) cv_X3_wroteAnything tw_2_176 ⟨rfl, rfl, Nat.le_of_ble_eq_true rfl, Nat.le_of_ble_eq_true rfl⟩ (hB.recv ha1 (cn_8 env (wC u (uN u.2.1 16 (t) (0) (2))) (t)) rfl) rfl hl.1 rfl (lv_room (by decide)) dX4_makeCommitted_6 ⟨(by show _ ≤ kc (cMk u.2.1 t) - kc u.2.1; first | omega | (dsimp only [wC]; omega)), (by show _ ≤ ks (cMk u.2.1 t) - ks u.2.1; first | omega | (dsimp only [wC]; omega))⟩) hB (fun r_1 u_3 H locs hq_2 hB => ?_)
  obtain ⟨rfl, rfl⟩ := hq_2
  show W p l e _ s m _ below meth c H locs _ _ _ (F0 m _ ls [.int (b2i (cAny (uN u.2.1 16 (t) (0) (2)) (t)))])
  refine w_ifne_b (tgt := 13) hx hb dX4_makeCommitted_9 (by decide) (fun c_4 => ?_) (fun c_4 => ?_)
  · have hE : cMk u.2.1 t = cToO (cM3 u.2.1 t) t 4 (gN (cM3 u.2.1 t) 0 0 0) := by unfold cMk; exact if_pos c_4
    have hk1 := kc_cM3 u.2.1 t hs
    have hk2 := cToO_kn (cM3 u.2.1 t) t 4 (Nat.zero_le (gN (cM3 u.2.1 t) 0 0 0))
    replace hk2 : kc (cM3 u.2.1 t) ≤ kc (cToO (cM3 u.2.1 t) t 4 (gN (cM3 u.2.1 t) 0 0 0)) ∧ ks (cM3 u.2.1 t) ≤ ks (cToO (cM3 u.2.1 t) t 4 (gN (cM3 u.2.1 t) 0 0 0)) := hk2
    rw [← hE] at hk2
    refine lv_aload_n hx hb dX4_makeCommitted_13 rfl (lv_at hl 1 rfl) ?_
    refine lv_aload_n hx hb dX4_makeCommitted_14 rfl (lv_at hl 1 rfl) ?_
    refine w_getN (v := .ref (sA u 5 (gN u.2.1 26 (t) 0))) (fk := 1) hF hB ha1 (cn_8 env (wC u (uN u.2.1 16 (t) (0) (2))) (t)) rfl in_X3 (by decide) tw_1_217 rfl rfl dX4_makeCommitted_15 ?_
    refine w_getN (v := .ref (sA u 6 (gN u.2.1 26 (t) 0))) (fk := 1) hF hB ⟨(hI.k5 (hI.tx ha1.1).2), rfl⟩ (cn_5 env (wC u (uN u.2.1 16 (t) (0) (2))) (gN u.2.1 26 (t) 0)) rfl in_X1 (by decide) tw_1_67 rfl rfl dX4_makeCommitted_18 ?_
    refine lv_aload_n hx hb dX4_makeCommitted_21 rfl (lv_at hl 1 rfl) ?_
    refine w_getN (v := .ref (sA u 5 (gN u.2.1 26 (t) 0))) (fk := 1) hF hB ha1 (cn_8 env (wC u (uN u.2.1 16 (t) (0) (2))) (t)) rfl in_X3 (by decide) tw_1_217 rfl rfl dX4_makeCommitted_22 ?_
    refine w_getN (v := .int (nI (gN u.2.1 26 (t) 0))) (fk := 0) hF hB ⟨(hI.k5 (hI.tx ha1.1).2), rfl⟩ (cn_5 env (wC u (uN u.2.1 16 (t) (0) (2))) (gN u.2.1 26 (t) 0)) rfl in_X1 (by decide) tw_1_64 rfl rfl dX4_makeCommitted_25 ?_
    refine w_iald (v := .int (nI (gN u.2.1 6 (gN u.2.1 26 (t) 0) (gN u.2.1 26 (t) 0)))) hF hB ⟨(hI.k6 (hI.tx ha1.1).2), rfl⟩ (cn_6 env (wC u (uN u.2.1 16 (t) (0) (2))) (gN u.2.1 26 (t) 0)) (hI.tx ha1.1).2 rfl (by decide) dX4_makeCommitted_28 ?_
    refine lv_iconst (v := nI 1) hx hb dX4_makeCommitted_29 (by decide) ?_
    refine w_iadd_n hx hb dX4_makeCommitted_30 ?_
    refine w_putN (fk := 10) (v := .int (nI ((gN u.2.1 6 (gN u.2.1 26 (t) 0) (gN u.2.1 26 (t) 0)) + 1))) (ty := .int) hF hB ha1 (wC u (uN (uN u.2.1 16 (t) (0) (2)) 17 (t) (0) ((gN u.2.1 6 (gN u.2.1 26 (t) 0) (gN u.2.1 26 (t) 0)) + 1))) (cn_8 env (wC u (uN u.2.1 16 (t) (0) (2))) (t)) rfl in_X3 tyX3 tyX3_ok nmX3 (by decide) tw_1_239 rfl rfl (by decide +kernel) rfl rfl (Nat.le_of_ble_eq_true rfl) rfl rfl (cu_N17 env (wC u (uN u.2.1 16 (t) (0) (2))) (t) ((gN u.2.1 6 (gN u.2.1 26 (t) 0) (gN u.2.1 26 (t) 0)) + 1)) dX4_makeCommitted_31 (fun H locs hB => ?_)
    refine lv_aload_n hx hb dX4_makeCommitted_34 rfl (lv_at hl 1 rfl) ?_
    refine w_getN (v := .ref (sA u 5 (gN u.2.1 26 (t) 0))) (fk := 1) hF hB ha1 (cn_8 env (wC u (uN (uN u.2.1 16 (t) (0) (2)) 17 (t) (0) ((gN u.2.1 6 (gN u.2.1 26 (t) 0) (gN u.2.1 26 (t) 0)) + 1))) (t)) rfl in_X3 (by decide) tw_1_217 rfl rfl dX4_makeCommitted_35 ?_
    refine lv_aload_n hx hb dX4_makeCommitted_38 rfl (lv_at hl 1 rfl) ?_
    refine w_cv (r_VN (As := [.ref (a1)]) (rest := []) hF hB (c_X1_take l env s0 X (wC u (uN (uN u.2.1 16 (t) (0) (2)) 17 (t) (0) ((gN u.2.1 6 (gN u.2.1 26 (t) 0) (gN u.2.1 26 (t) 0)) + 1))) (sA u 5 (gN u.2.1 26 (t) 0)) (gN u.2.1 26 (t) 0) (⟨(hI.k5 (hI.tx ha1.1).2), rfl⟩) (a1) (t) (ha1) (SZ.cn hZ (fun f hf => by first | (rw [gN_f _ _ _ _ _ (by omega), gN_f _ _ _ _ _ (by omega)]; done) | (rw [gN_f _ _ _ _ _ (by omega)]; done) | rfl)) (Nb.uN (Nb.uN hNb (f := 16) (i := t) (j := 0) (v := 2) (by decide)) (f := 17) (i := t) (j := 0) (v := (gN u.2.1 6 (gN u.2.1 26 (t) 0) (gN u.2.1 26 (t) 0)) + 1) (by have := hok.2.2 (gN u.2.1 26 t 0) (gN u.2.1 26 t 0); omega)) hs (hok.2.1 _ hs) (hok.2.2 _ _)) cv_X1_take tw_2_180 ⟨rfl, rfl, Nat.le_of_ble_eq_true rfl, Nat.le_of_ble_eq_true rfl⟩ (hB.recv ⟨(hI.k5 (hI.tx ha1.1).2), rfl⟩ (cn_5 env (wC u (uN (uN u.2.1 16 (t) (0) (2)) 17 (t) (0) ((gN u.2.1 6 (gN u.2.1 26 (t) 0) (gN u.2.1 26 (t) 0)) + 1))) (gN u.2.1 26 (t) 0)) rfl) rfl hl.1 rfl (lv_room (by decide)) dX4_makeCommitted_39 ⟨(by show _ ≤ kc (cMk u.2.1 t) - kc u.2.1; first | omega | (dsimp only [wC]; omega)), (by show _ ≤ ks (cMk u.2.1 t) - ks u.2.1; first | omega | (dsimp only [wC]; omega))⟩) hB (fun u_7 H locs hq_6 hB => ?_)
    obtain ⟨ph_8, rfl, hZ_9, hK_10⟩ := hq_6
    replace hB : Bd env s0 X (ph_8, (cTake ((uN (uN u.2.1 16 (t) (0) (2)) 17 (t) (0) ((gN u.2.1 6 (gN u.2.1 26 (t) 0) (gN u.2.1 26 (t) 0)) + 1))) (gN u.2.1 26 (t) 0) (t)), u.2.2) s H locs := hB
    replace hZ_9 : SZ env (ph_8, (cTake ((uN (uN u.2.1 16 (t) (0) (2)) 17 (t) (0) ((gN u.2.1 6 (gN u.2.1 26 (t) 0) (gN u.2.1 26 (t) 0)) + 1))) (gN u.2.1 26 (t) 0) (t)), u.2.2) := hZ_9
    replace hK_10 : Kp (wC u (uN (uN u.2.1 16 (t) (0) (2)) 17 (t) (0) ((gN u.2.1 6 (gN u.2.1 26 (t) 0) (gN u.2.1 26 (t) 0)) + 1))) (ph_8, (cTake ((uN (uN u.2.1 16 (t) (0) (2)) 17 (t) (0) ((gN u.2.1 6 (gN u.2.1 26 (t) 0) (gN u.2.1 26 (t) 0)) + 1))) (gN u.2.1 26 (t) 0) (t)), u.2.2) := hK_10
    obtain ⟨T_11, hT_11⟩ : ∃ T, T = (cTake ((uN (uN u.2.1 16 (t) (0) (2)) 17 (t) (0) ((gN u.2.1 6 (gN u.2.1 26 (t) 0) (gN u.2.1 26 (t) 0)) + 1))) (gN u.2.1 26 (t) 0) (t)) := ⟨_, rfl⟩
    rw [← hT_11] at hB hZ_9 hK_10
    have hI_12 : SI env (ph_8, T_11, u.2.2) := hZ_9.1
    have hNb_13 : Nb T_11 := by rw [hT_11]; exact Nb.take (Nb.uN (Nb.uN hNb (f := 16) (i := t) (j := 0) (v := 2) (by decide)) (f := 17) (i := t) (j := 0) (v := (gN u.2.1 6 (gN u.2.1 26 (t) 0) (gN u.2.1 26 (t) 0)) + 1) (by have := hok.2.2 (gN u.2.1 26 t 0) (gN u.2.1 26 t 0); omega)) (hok.2.2 _ _) (hok.2.1 _ hs) (by omega)
    have hKp_14 : Kp u (ph_8, T_11, u.2.2) := hK_10
    have hc3 : T_11 = cM3 u.2.1 t := hT_11
    have hkA : kc T_11 = kc (cM3 u.2.1 t) ∧ ks T_11 = ks (cM3 u.2.1 t) := by rw [hc3]; exact ⟨rfl, rfl⟩
    have hkB : kc (cToO T_11 t 4 (gN T_11 0 0 0)) = kc (cMk u.2.1 t) ∧ ks (cToO T_11 t 4 (gN T_11 0 0 0)) = ks (cMk u.2.1 t) := by rw [hE, hc3]; exact ⟨rfl, rfl⟩
    have hrb3 : Rb T_11 4 := by rw [hc3]; exact Rb.cM3 hok.1
    have h03 : gN T_11 0 0 0 ≤ 4 := by rw [hc3, cM3_0]; exact hn4
    have h263 : gN T_11 26 t 0 < 4 := by rw [hc3, cM3_26]; exact hs
    show W p l e _ s m _ below meth c H locs _ _ _ (F0 m _ ls [])
    refine lv_aload_n hx hb dX4_makeCommitted_42 rfl (lv_at hl 0 rfl) ?_
    refine lv_aload_n hx hb dX4_makeCommitted_43 rfl (lv_at hl 1 rfl) ?_
    refine lv_iconst (v := nI 4) hx hb dX4_makeCommitted_44 (by decide) ?_
    refine w_cv (r_V (As := [.ref (a1), .int (nI (4))]) (rest := []) hF hB (c_X4_tellOthers l env s0 X (ph_8, T_11, u.2.2) (a0) (0) ((hK_10.at (by decide) ha0)) (a1) (t) ((hK_10.at (by decide) ha1)) (4) hZ_9 hNb_13 hrb3 (by omega)) cv_X4_tellOthers tw_2_189 ⟨rfl, rfl, Nat.le_of_ble_eq_true rfl, Nat.le_of_ble_eq_true rfl⟩ (hB.recv (hK_10.at (by decide) ha0) (cn_0 env (ph_8, T_11, u.2.2) (0)) rfl) rfl hl.1 rfl (lv_room (by decide)) dX4_makeCommitted_45 ⟨(by show _ ≤ kc (cMk u.2.1 t) - kc u.2.1; first | omega | (dsimp only [wC]; omega)), (by show _ ≤ ks (cMk u.2.1 t) - ks u.2.1; first | omega | (dsimp only [wC]; omega))⟩) hB (fun u_17 H locs hq_16 hB => ?_)
    obtain ⟨ph_18, rfl, hZ_19, hK_20⟩ := hq_16
    replace hB : Bd env s0 X (ph_18, (cToO T_11 (t) (4) (gN T_11 0 0 0)), u.2.2) s H locs := hB
    replace hZ_19 : SZ env (ph_18, (cToO T_11 (t) (4) (gN T_11 0 0 0)), u.2.2) := hZ_19
    replace hK_20 : Kp (ph_8, T_11, u.2.2) (ph_18, (cToO T_11 (t) (4) (gN T_11 0 0 0)), u.2.2) := hK_20
    obtain ⟨T_21, hT_21⟩ : ∃ T, T = (cToO T_11 (t) (4) (gN T_11 0 0 0)) := ⟨_, rfl⟩
    rw [← hT_21] at hB hZ_19 hK_20
    have hI_22 : SI env (ph_18, T_21, u.2.2) := hZ_19.1
    have hNb_23 : Nb T_21 := by rw [hT_21]; exact cToO_Nb _ _ _ hNb_13 hrb3 (by omega) (by omega) (by omega) _ (by omega)
    have hKp_24 : Kp u (ph_18, T_21, u.2.2) := Kp.tr hKp_14 hK_20
    show W p l e _ s m _ below meth c H locs _ _ _ (F0 m _ ls [])
    refine W.widen (k := kc (cMk u.2.1 t) - kc u.2.1) (n := ks (cMk u.2.1 t) - ks u.2.1) (by first | omega | (dsimp only [wC]; omega)) (by first | omega | (dsimp only [wC]; omega)) ?_
    exact w_vret hF hr hlocks hB ((by rw [hE, ← hc3, ← hT_21]; exact ⟨_, rfl, hZ_19, hKp_24⟩)) dX4_makeCommitted_48
  · have hE : cMk u.2.1 t = cM1 u.2.1 t := by unfold cMk; exact if_neg (by rw [show cAny (cM1 u.2.1 t) t = false from c_4]; decide)
    refine W.widen (k := kc (cMk u.2.1 t) - kc u.2.1) (n := ks (cMk u.2.1 t) - ks u.2.1) (by first | omega | (dsimp only [wC]; omega)) (by first | omega | (dsimp only [wC]; omega)) ?_
    exact w_vret hF hr hlocks hB ((by rw [hE]; exact ⟨u.1, rfl, SZ.cn hZ (fun f hf => cM1_N _ _ (by omega)), Kp.w u _ _⟩)) dX4_makeCommitted_12
set_option maxHeartbeats 4000000 in
set_option maxRecDepth 100000 in
theorem c_X4_receiveYes (l : Launch) (env : Ev) (s0 : Nat) (X : va_W) (u : St) (a0 : Nat) (_xa0 : Nat) (ha0 : At u 0 (0) a0) (a1 : Nat) (t : Nat) (ha1 : At u 8 (t) a1) (hZ : SZ env u) (hNb : Nb u.2.1) (hok : Okc u.2.1) : Met l yX4_receiveYes [Cond.code yX4_receiveYes cX4_receiveYes 2 none] { frames := 10, cells := kc (cYes u.2.1 t) - kc u.2.1, slots := ks (cYes u.2.1 t) - ks u.2.1, locals := 239 } (va_Pc [.ref (a0), .ref (a1)] (Pr env s0 X u)) (va_Qv (fun u' => ∃ ph, u' = (ph, cYes u.2.1 (t), u.2.2) ∧ SZ env (ph, cYes u.2.1 (t), u.2.2) ∧ Kp u (ph, cYes u.2.1 (t), u.2.2)) (Po env s0 X) (fun q => s0 ≤ q)) (kc (cYes u.2.1 t) - kc u.2.1) (ks (cYes u.2.1 t) - ks u.2.1) (fun q => s0 ≤ q) := by
  refine Met.ofW (cc := cX4_receiveYes) (maxL := 2) (ret := none) (by decide) rfl ?_
  intro p e s m args below meth c s₁ B hml hv
  obtain ⟨rfl, hv⟩ := hv
  have hx := B.exec
  have hb := B.bytes
  have hr := B.returns
  have hts : ∀ ww ∈ TT, ww.before #[.ref (a0), .ref (a1)] s = true := fun ww hw => hv.2.1 ww hw _
  have hown : s.vm.findClass RX4 = some m.cls := findClass_of_methodNamed B.named
  have hlocks := B.notSynchronized
  have hF : CallFix p m c cX4_receiveYes 2 s #[.ref (a0), .ref (a1)] TT RX4 := ⟨hx, hb, hml, hown, hts⟩
  have hB := Bd.entry hv
  have hl := lv_entry ([.ref (a0), .ref (a1)]) (n := 2) (Nat.le_of_ble_eq_true rfl)
  rw [lg_entry_eq]
  generalize (lg_sl ([.ref (a0), .ref (a1)]) ++ List.replicate (2 - (lg_sl ([.ref (a0), .ref (a1)])).length) Slot.unset).toArray = ls at hl ⊢
  have hl : lv_has ls 2 [(0, .ref (a0)), (1, .ref (a1))] := hl
  have hI := hZ.1
  have hn4 := hI.nst
  have hs := (hI.tx ha1.1).2
  have htt := (hI.tx ha1.1).1
  have hn2 := hI.ntx
  have h19 := hok.2 t
  have hky := kc_yes u.2.1 t hs
  refine lv_aload_n hx hb dX4_receiveYes_0 rfl (lv_at hl 1 rfl) ?_
  refine lv_dup hx hb dX4_receiveYes_1 rfl ?_
  refine w_getN (v := .int (nI (gN u.2.1 19 (t) (0)))) (fk := 12) hF hB ha1 (cn_8 env u (t)) rfl in_X3 (by decide) tw_2_1 rfl rfl dX4_receiveYes_2 ?_
  refine lv_iconst (v := nI 1) hx hb dX4_receiveYes_5 (by decide) ?_
  refine w_iadd_n hx hb dX4_receiveYes_6 ?_
  refine w_putN (fk := 12) (v := .int (nI ((gN u.2.1 19 (t) (0)) + 1))) (ty := .int) hF hB ha1 (wC u (uN u.2.1 19 (t) (0) ((gN u.2.1 19 (t) (0)) + 1))) (cn_8 env u (t)) rfl in_X3 tyX3 tyX3_ok nmX3 (by decide) tw_2_1 rfl rfl (by decide +kernel) rfl rfl (Nat.le_of_ble_eq_true rfl) rfl rfl (cu_N19 env u (t) ((gN u.2.1 19 (t) (0)) + 1)) dX4_receiveYes_7 (fun H locs hB => ?_)
  refine lv_aload_n hx hb dX4_receiveYes_10 rfl (lv_at hl 1 rfl) ?_
  refine w_getN (v := .int (nI (gN u.2.1 16 (t) (0)))) (fk := 9) hF hB ha1 (cn_8 env (wC u (uN u.2.1 19 (t) (0) ((gN u.2.1 19 (t) (0)) + 1))) (t)) rfl in_X3 (by decide) tw_1_236 rfl rfl dX4_receiveYes_11 ?_
  refine lv_iconst (v := nI 1) hx hb dX4_receiveYes_14 (by decide) ?_
  refine w_icne_n (tgt := 34) (by have := hNb 16 (t) (0); omega) (by decide) hx hb dX4_receiveYes_15 (by decide) (fun c_1 => ?_) (fun c_1 => ?_)
  · refine W.widen (k := kc (cYes u.2.1 t) - kc u.2.1) (n := ks (cYes u.2.1 t) - ks u.2.1) (by first | omega | (dsimp only [wC]; omega)) (by first | omega | (dsimp only [wC]; omega)) ?_
    exact w_vret hF hr hlocks hB ((by rw [show cYes u.2.1 t = (uN u.2.1 19 (t) (0) ((gN u.2.1 19 (t) (0)) + 1)) from by unfold cYes; split <;> first | rfl | (rw [if_neg (by omega)])]; exact ⟨u.1, rfl, SZ.cn hZ (fun f hf => gN_f _ _ _ _ _ (by omega)), Kp.w u _ _⟩)) dX4_receiveYes_34
  · refine lv_aload_n hx hb dX4_receiveYes_18 rfl (lv_at hl 1 rfl) ?_
    refine w_getN (v := .int (nI ((gN u.2.1 19 (t) (0)) + 1))) (fk := 12) hF hB ha1 (cn_8 env (wC u (uN u.2.1 19 (t) (0) ((gN u.2.1 19 (t) (0)) + 1))) (t)) rfl in_X3 (by decide) tw_2_1 rfl (by simp [wC, vN, vB, uN, uB, gN, gB, up3]) dX4_receiveYes_19 ?_
    refine lv_aload_n hx hb dX4_receiveYes_22 rfl (lv_at hl 1 rfl) ?_
    refine w_getN (v := .int (nI (gN u.2.1 18 (t) (0)))) (fk := 11) hF hB ha1 (cn_8 env (wC u (uN u.2.1 19 (t) (0) ((gN u.2.1 19 (t) (0)) + 1))) (t)) rfl in_X3 (by decide) tw_2_0 rfl rfl dX4_receiveYes_23 ?_
    refine w_icne_n (tgt := 34) (by have := hNb 19 (t) (0); omega) (by have := hNb 18 (t) (0); omega) hx hb dX4_receiveYes_26 (by decide) (fun c_2 => ?_) (fun c_2 => ?_)
    · refine W.widen (k := kc (cYes u.2.1 t) - kc u.2.1) (n := ks (cYes u.2.1 t) - ks u.2.1) (by first | omega | (dsimp only [wC]; omega)) (by first | omega | (dsimp only [wC]; omega)) ?_
      exact w_vret hF hr hlocks hB ((by rw [show cYes u.2.1 t = (uN u.2.1 19 (t) (0) ((gN u.2.1 19 (t) (0)) + 1)) from by unfold cYes; split <;> first | rfl | (rw [if_neg (by omega)])]; exact ⟨u.1, rfl, SZ.cn hZ (fun f hf => gN_f _ _ _ _ _ (by omega)), Kp.w u _ _⟩)) dX4_receiveYes_34
    · have hE : cYes u.2.1 t = cMk (uN u.2.1 19 (t) (0) ((gN u.2.1 19 (t) (0)) + 1)) t := by unfold cYes; rw [if_pos (by omega), if_pos (by omega)]
      have hk1 : kc (uN u.2.1 19 (t) (0) ((gN u.2.1 19 (t) (0)) + 1)) = kc u.2.1 ∧ ks (uN u.2.1 19 (t) (0) ((gN u.2.1 19 (t) (0)) + 1)) = ks u.2.1 := kc_19 _ _ _
      have hk2 : kc (cMk (uN u.2.1 19 (t) (0) ((gN u.2.1 19 (t) (0)) + 1)) t) = kc (cYes u.2.1 t) ∧ ks (cMk (uN u.2.1 19 (t) (0) ((gN u.2.1 19 (t) (0)) + 1)) t) = ks (cYes u.2.1 t) := by rw [hE]; exact ⟨rfl, rfl⟩
      have hk3 := kc_mk (uN u.2.1 19 (t) (0) ((gN u.2.1 19 (t) (0)) + 1)) t hs
      have hok2 : Okm (uN u.2.1 19 (t) (0) ((gN u.2.1 19 (t) (0)) + 1)) := hok.1.u19 _ _
      have h192 := hok.2 t
      refine lv_aload_n hx hb dX4_receiveYes_29 rfl (lv_at hl 0 rfl) ?_
      refine lv_aload_n hx hb dX4_receiveYes_30 rfl (lv_at hl 1 rfl) ?_
      refine w_cv (r_V (As := [.ref (a1)]) (rest := []) hF hB (c_X4_makeCommitted l env s0 X (wC u (uN u.2.1 19 (t) (0) ((gN u.2.1 19 (t) (0)) + 1))) (a0) (0) (ha0) (a1) (t) (ha1) (SZ.cn hZ (fun f hf => by first | (rw [gN_f _ _ _ _ _ (by omega), gN_f _ _ _ _ _ (by omega)]; done) | (rw [gN_f _ _ _ _ _ (by omega)]; done) | rfl)) (Nb.uN hNb (f := 19) (i := t) (j := 0) (v := (gN u.2.1 19 (t) (0)) + 1) (by have := hNb 19 (t) (0); omega)) hok2) cv_X4_makeCommitted tw_2_172 ⟨rfl, rfl, Nat.le_of_ble_eq_true rfl, Nat.le_of_ble_eq_true rfl⟩ (hB.recv ha0 (cn_0 env (wC u (uN u.2.1 19 (t) (0) ((gN u.2.1 19 (t) (0)) + 1))) (0)) rfl) rfl hl.1 rfl (lv_room (by decide)) dX4_receiveYes_31 ⟨(by show _ ≤ kc (cYes u.2.1 t) - kc u.2.1; first | omega | (dsimp only [wC]; omega)), (by show _ ≤ ks (cYes u.2.1 t) - ks u.2.1; first | omega | (dsimp only [wC]; omega))⟩) hB (fun u_5 H locs hq_4 hB => ?_)
      obtain ⟨ph_6, rfl, hZ_7, hK_8⟩ := hq_4
      replace hB : Bd env s0 X (ph_6, (cMk ((uN u.2.1 19 (t) (0) ((gN u.2.1 19 (t) (0)) + 1))) (t)), u.2.2) s H locs := hB
      replace hZ_7 : SZ env (ph_6, (cMk ((uN u.2.1 19 (t) (0) ((gN u.2.1 19 (t) (0)) + 1))) (t)), u.2.2) := hZ_7
      replace hK_8 : Kp (wC u (uN u.2.1 19 (t) (0) ((gN u.2.1 19 (t) (0)) + 1))) (ph_6, (cMk ((uN u.2.1 19 (t) (0) ((gN u.2.1 19 (t) (0)) + 1))) (t)), u.2.2) := hK_8
      obtain ⟨T_9, hT_9⟩ : ∃ T, T = (cMk ((uN u.2.1 19 (t) (0) ((gN u.2.1 19 (t) (0)) + 1))) (t)) := ⟨_, rfl⟩
      rw [← hT_9] at hB hZ_7 hK_8
      have hI_10 : SI env (ph_6, T_9, u.2.2) := hZ_7.1
      have hNb_11 : Nb T_9 := by rw [hT_9]; exact Nb.mk (Nb.uN hNb (f := 19) (i := t) (j := 0) (v := (gN u.2.1 19 (t) (0)) + 1) (by have := hNb 19 (t) (0); omega)) hok2 hs (by omega) hn4
      have hKp_12 : Kp u (ph_6, T_9, u.2.2) := hK_8
      show W p l e _ s m _ below meth c H locs _ _ _ (F0 m _ ls [])
      refine W.widen (k := kc (cYes u.2.1 t) - kc u.2.1) (n := ks (cYes u.2.1 t) - ks u.2.1) (by first | omega | (dsimp only [wC]; omega)) (by first | omega | (dsimp only [wC]; omega)) ?_
      exact w_vret hF hr hlocks hB ((by rw [hE, ← hT_9]; exact ⟨_, rfl, hZ_7, hKp_12⟩)) dX4_receiveYes_34
set_option maxHeartbeats 4000000 in
set_option maxRecDepth 100000 in
theorem c_X4_receiveNo (l : Launch) (env : Ev) (s0 : Nat) (X : va_W) (u : St) (a0 : Nat) (_xa0 : Nat) (ha0 : At u 0 (0) a0) (a1 : Nat) (t : Nat) (ha1 : At u 8 (t) a1) (hZ : SZ env u) (hNb : Nb u.2.1) (hok : Okm u.2.1) : Met l yX4_receiveNo [Cond.code yX4_receiveNo cX4_receiveNo 2 none] { frames := 9, cells := kc (cNo u.2.1 t) - kc u.2.1, slots := ks (cNo u.2.1 t) - ks u.2.1, locals := 219 } (va_Pc [.ref (a0), .ref (a1)] (Pr env s0 X u)) (va_Qv (fun u' => ∃ ph, u' = (ph, cNo u.2.1 (t), u.2.2) ∧ SZ env (ph, cNo u.2.1 (t), u.2.2) ∧ Kp u (ph, cNo u.2.1 (t), u.2.2)) (Po env s0 X) (fun q => s0 ≤ q)) (kc (cNo u.2.1 t) - kc u.2.1) (ks (cNo u.2.1 t) - ks u.2.1) (fun q => s0 ≤ q) := by
  refine Met.ofW (cc := cX4_receiveNo) (maxL := 2) (ret := none) (by decide) rfl ?_
  intro p e s m args below meth c s₁ B hml hv
  obtain ⟨rfl, hv⟩ := hv
  have hx := B.exec
  have hb := B.bytes
  have hr := B.returns
  have hts : ∀ ww ∈ TT, ww.before #[.ref (a0), .ref (a1)] s = true := fun ww hw => hv.2.1 ww hw _
  have hown : s.vm.findClass RX4 = some m.cls := findClass_of_methodNamed B.named
  have hlocks := B.notSynchronized
  have hF : CallFix p m c cX4_receiveNo 2 s #[.ref (a0), .ref (a1)] TT RX4 := ⟨hx, hb, hml, hown, hts⟩
  have hB := Bd.entry hv
  have hl := lv_entry ([.ref (a0), .ref (a1)]) (n := 2) (Nat.le_of_ble_eq_true rfl)
  rw [lg_entry_eq]
  generalize (lg_sl ([.ref (a0), .ref (a1)]) ++ List.replicate (2 - (lg_sl ([.ref (a0), .ref (a1)])).length) Slot.unset).toArray = ls at hl ⊢
  have hl : lv_has ls 2 [(0, .ref (a0)), (1, .ref (a1))] := hl
  have hI := hZ.1
  have hn4 := hI.nst
  have hs := (hI.tx ha1.1).2
  have htt := (hI.tx ha1.1).1
  have hn2 := hI.ntx
  refine lv_aload_n hx hb dX4_receiveNo_0 rfl (lv_at hl 1 rfl) ?_
  refine w_getN (v := .int (nI (gN u.2.1 16 (t) (0)))) (fk := 9) hF hB ha1 (cn_8 env u (t)) rfl in_X3 (by decide) tw_1_236 rfl rfl dX4_receiveNo_1 ?_
  refine lv_iconst (v := nI 1) hx hb dX4_receiveNo_4 (by decide) ?_
  refine w_iceq_n (tgt := 9) (by have := hNb 16 (t) (0); omega) (by decide) hx hb dX4_receiveNo_5 (by decide) (fun c_1 => ?_) (fun c_1 => ?_)
  · have hE : cNo u.2.1 t = cToH (cNU u.2.1 t) t 3 (gN (cNU u.2.1 t) 0 0 0) := by unfold cNo; exact if_pos (by omega)
    have hk1 := kc_NU u.2.1 t
    have hk3 := kc_no u.2.1 t
    refine lv_aload_n hx hb dX4_receiveNo_9 rfl (lv_at hl 1 rfl) ?_
    refine lv_iconst (v := nI 3) hx hb dX4_receiveNo_10 (by decide) ?_
    refine w_putN (fk := 9) (v := .int (nI (3))) (ty := .int) hF hB ha1 (wC u (uN u.2.1 16 (t) (0) (3))) (cn_8 env u (t)) rfl in_X3 tyX3 tyX3_ok nmX3 (by decide) tw_1_236 rfl rfl (by decide +kernel) rfl rfl (Nat.le_of_ble_eq_true rfl) rfl rfl (cu_N16 env u (t) (3)) dX4_receiveNo_11 (fun H locs hB => ?_)
    refine lv_aload_n hx hb dX4_receiveNo_14 rfl (lv_at hl 1 rfl) ?_
    refine w_getN (v := .ref (sA u 5 (gN u.2.1 26 (t) 0))) (fk := 1) hF hB ha1 (cn_8 env (wC u (uN u.2.1 16 (t) (0) (3))) (t)) rfl in_X3 (by decide) tw_1_217 rfl rfl dX4_receiveNo_15 ?_
    refine lv_aload_n hx hb dX4_receiveNo_18 rfl (lv_at hl 1 rfl) ?_
    refine w_cv (r_VN (As := [.ref (a1)]) (rest := []) hF hB (c_X1_unlock l env s0 X (wC u (uN u.2.1 16 (t) (0) (3))) (sA u 5 (gN u.2.1 26 (t) 0)) (gN u.2.1 26 (t) 0) (⟨(hI.k5 (hI.tx ha1.1).2), rfl⟩) (a1) (t) (ha1) (show SI env (wC u (uN u.2.1 16 (t) (0) (3))) from hI) (Nb.uN hNb (f := 16) (i := t) (j := 0) (v := 3) (by decide)) hs) cv_X1_unlock tw_2_238 ⟨rfl, rfl, Nat.le_of_ble_eq_true rfl, Nat.le_of_ble_eq_true rfl⟩ (hB.recv ⟨(hI.k5 (hI.tx ha1.1).2), rfl⟩ (cn_5 env (wC u (uN u.2.1 16 (t) (0) (3))) (gN u.2.1 26 (t) 0)) rfl) rfl hl.1 rfl (lv_room (by decide)) dX4_receiveNo_19 ⟨(by show _ ≤ kc (cNo u.2.1 t) - kc u.2.1; first | omega | (dsimp only [wC]; omega)), (by show _ ≤ ks (cNo u.2.1 t) - ks u.2.1; first | omega | (dsimp only [wC]; omega))⟩) hB (fun u_4 H locs hq_3 hB => ?_)
    obtain rfl := hq_3
    replace hB : Bd env s0 X (wC u (cUnlock ((uN u.2.1 16 (t) (0) (3))) (gN u.2.1 26 (t) 0) (t) 12)) s H locs := hB
    obtain ⟨T_5, hT_5⟩ : ∃ T, T = (cUnlock ((uN u.2.1 16 (t) (0) (3))) (gN u.2.1 26 (t) 0) (t) 12) := ⟨_, rfl⟩
    rw [← hT_5] at hB
    have hI_6 : SI env (wC u T_5) := by rw [hT_5]; exact SI.same (fun f hf => by rw [cUnlock_N, gN_f _ _ _ _ _ (by omega)]) hI
    have hNb_7 : Nb T_5 := by rw [hT_5]; exact Nb.ofN (cUnlock_N _ _ _ _) (Nb.uN hNb (by decide))
    have hc3 : T_5 = cNU u.2.1 t := hT_5
    have hkA : kc T_5 = kc (cNU u.2.1 t) ∧ ks T_5 = ks (cNU u.2.1 t) := by rw [hc3]; exact ⟨rfl, rfl⟩
    have hkB : kc (cToH T_5 t 3 (gN T_5 0 0 0)) = kc (cNo u.2.1 t) ∧ ks (cToH T_5 t 3 (gN T_5 0 0 0)) = ks (cNo u.2.1 t) := by rw [hE, hc3]; exact ⟨rfl, rfl⟩
    have hrb3 : Rb T_5 4 := Rb.N (by rw [hc3, cNU_N _ _ (by decide)]) (by rw [hc3, cNU_N _ _ (by decide)]) hok.1
    have h03 : gN T_5 0 0 0 ≤ 4 := by rw [hc3, cNU_N _ _ (by decide)]; exact hn4
    have h263 : gN T_5 26 t 0 < 4 := by rw [hc3, cNU_N _ _ (by decide)]; exact hs
    have hZ3 : SZ env (wC u T_5) := SZ.cn hZ (fun f hf => by rw [hc3, cNU_N _ _ (by omega)])
    refine lv_aload_n hx hb dX4_receiveNo_22 rfl (lv_at hl 0 rfl) ?_
    refine lv_aload_n hx hb dX4_receiveNo_23 rfl (lv_at hl 1 rfl) ?_
    refine lv_iconst (v := nI 3) hx hb dX4_receiveNo_24 (by decide) ?_
    refine w_ci (r_V (As := [.ref (a1), .int (nI (3))]) (rest := []) hF hB (c_X4_tellHomes l env s0 X (wC u T_5) (a0) (0) (ha0) (a1) (t) (ha1) (3) hZ3 hNb_7 hrb3 (by omega)) cv_X4_tellHomes tw_2_141 ⟨rfl, rfl, Nat.le_of_ble_eq_true rfl, Nat.le_of_ble_eq_true rfl⟩ (hB.recv ha0 (cn_0 env (wC u T_5) (0)) rfl) rfl hl.1 rfl (lv_room (by decide)) dX4_receiveNo_25 ⟨(by show _ ≤ kc (cNo u.2.1 t) - kc u.2.1; first | omega | (dsimp only [wC]; omega)), (by show _ ≤ ks (cNo u.2.1 t) - ks u.2.1; first | omega | (dsimp only [wC]; omega))⟩) hB (fun r_8 u_10 H locs hq_9 hB => ?_)
    obtain ⟨ph_11, rfl, hZ_12, hK_13, rfl⟩ := hq_9
    replace hB : Bd env s0 X (ph_11, (cToH T_5 (t) (3) (gN T_5 0 0 0)), u.2.2) s H locs := hB
    replace hZ_12 : SZ env (ph_11, (cToH T_5 (t) (3) (gN T_5 0 0 0)), u.2.2) := hZ_12
    replace hK_13 : Kp (wC u T_5) (ph_11, (cToH T_5 (t) (3) (gN T_5 0 0 0)), u.2.2) := hK_13
    obtain ⟨T_14, hT_14⟩ : ∃ T, T = (cToH T_5 (t) (3) (gN T_5 0 0 0)) := ⟨_, rfl⟩
    rw [← hT_14] at hB hZ_12 hK_13
    have hI_15 : SI env (ph_11, T_14, u.2.2) := hZ_12.1
    have hNb_16 : Nb T_14 := by rw [hT_14]; exact cToH_Nb _ _ _ hNb_7 hrb3 (by omega) (by omega) (by omega) _ (by omega)
    have hKp_17 : Kp u (ph_11, T_14, u.2.2) := hK_13
    show W p l e _ s m _ below meth c H locs _ _ _ (F0 m _ ls [.int (nI (cToHn T_5 (t) (3) (gN T_5 0 0 0)))])
    refine lv_pop hx hb dX4_receiveNo_28 rfl ?_
    refine W.widen (k := kc (cNo u.2.1 t) - kc u.2.1) (n := ks (cNo u.2.1 t) - ks u.2.1) (by first | omega | (dsimp only [wC]; omega)) (by first | omega | (dsimp only [wC]; omega)) ?_
    exact w_vret hF hr hlocks hB ((by rw [hE, ← hc3, ← hT_14]; exact ⟨_, rfl, hZ_12, hKp_17⟩)) dX4_receiveNo_29
  · refine W.widen (k := kc (cNo u.2.1 t) - kc u.2.1) (n := ks (cNo u.2.1 t) - ks u.2.1) (by first | omega | (dsimp only [wC]; omega)) (by first | omega | (dsimp only [wC]; omega)) ?_
    exact w_vret hF hr hlocks hB ((by rw [show cNo u.2.1 t = u.2.1 from by unfold cNo; exact if_neg (by omega)]; exact ⟨u.1, rfl, hZ, Kp.rf u⟩)) dX4_receiveNo_8
set_option maxHeartbeats 4000000 in
set_option maxRecDepth 100000 in
theorem c_X4_receiveDrop (l : Launch) (env : Ev) (s0 : Nat) (X : va_W) (u : St) (a0 : Nat) (_xa0 : Nat) (ha0 : At u 0 (0) a0) (a1 : Nat) (q : Nat) (ha1 : At u 14 (q) a1) (hI : SI env u) (hNb : Nb u.2.1) : Met l yX4_receiveDrop [Cond.code yX4_receiveDrop cX4_receiveDrop 2 none] { frames := 1, cells := 0, slots := 0, locals := 22 } (va_Pc [.ref (a0), .ref (a1)] (Pr env s0 X u)) (va_Qv (fun u' => u' = wC u (cDrop u.2.1 (q))) (Po env s0 X) (fun q => s0 ≤ q)) 0 0 (fun q => s0 ≤ q) := by
  refine Met.ofW (cc := cX4_receiveDrop) (maxL := 2) (ret := none) (by decide) rfl ?_
  intro p e s m args below meth c s₁ B hml hv
  obtain ⟨rfl, hv⟩ := hv
  have hx := B.exec
  have hb := B.bytes
  have hr := B.returns
  have hts : ∀ ww ∈ TT, ww.before #[.ref (a0), .ref (a1)] s = true := fun ww hw => hv.2.1 ww hw _
  have hown : s.vm.findClass RX4 = some m.cls := findClass_of_methodNamed B.named
  have hlocks := B.notSynchronized
  have hF : CallFix p m c cX4_receiveDrop 2 s #[.ref (a0), .ref (a1)] TT RX4 := ⟨hx, hb, hml, hown, hts⟩
  have hB := Bd.entry hv
  have hl := lv_entry ([.ref (a0), .ref (a1)]) (n := 2) (Nat.le_of_ble_eq_true rfl)
  rw [lg_entry_eq]
  generalize (lg_sl ([.ref (a0), .ref (a1)]) ++ List.replicate (2 - (lg_sl ([.ref (a0), .ref (a1)])).length) Slot.unset).toArray = ls at hl ⊢
  have hl : lv_has ls 2 [(0, .ref (a0)), (1, .ref (a1))] := hl
  have hn4 := hI.nst
  have hm22 := (hI.ms ha1.1).1
  have hm23 := (hI.ms ha1.1).2.1
  have hm24 := (hI.ms ha1.1).2.2
  have hn2 := hI.ntx
  have hm26 := (hI.tx (hI.k8 hm24)).2
  refine lv_aload_n hx hb dX4_receiveDrop_0 rfl (lv_at hl 1 rfl) ?_
  refine w_getN (v := .ref (sA u 8 (gN u.2.1 24 (q) 0))) (fk := 3) hF hB ha1 (cn_14 env u (q)) rfl in_X0 (by decide) tw_2_162 rfl rfl dX4_receiveDrop_1 ?_
  refine w_getN (v := .ref (sA u 13 (gN u.2.1 24 (q) 0))) (fk := 6) hF hB ⟨(hI.k8 (hI.ms ha1.1).2.2), rfl⟩ (cn_8 env u (gN u.2.1 24 (q) 0)) rfl in_X3 (by decide) tw_1_231 rfl rfl dX4_receiveDrop_4 ?_
  refine lv_aload_n hx hb dX4_receiveDrop_7 rfl (lv_at hl 1 rfl) ?_
  refine w_getN (v := .ref (sA u 5 (gN u.2.1 23 (q) 0))) (fk := 2) hF hB ha1 (cn_14 env u (q)) rfl in_X0 (by decide) tw_2_160 rfl rfl dX4_receiveDrop_8 ?_
  refine w_getN (v := .int (nI (gN u.2.1 23 (q) 0))) (fk := 0) hF hB ⟨(hI.k5 (hI.ms ha1.1).2.1), rfl⟩ (cn_5 env u (gN u.2.1 23 (q) 0)) rfl in_X1 (by decide) tw_1_64 rfl rfl dX4_receiveDrop_11 ?_
  refine lv_iconst (v := nI 1) hx hb dX4_receiveDrop_14 (by decide) ?_
  refine w_zast (x := b2i (true)) hF hB ⟨(hI.k13 (hI.k8 (hI.ms ha1.1).2.2)), rfl⟩ (wC u (uB u.2.1 13 (gN u.2.1 24 (q) 0) (gN u.2.1 23 (q) 0) (true))) (cn_13 env u (gN u.2.1 24 (q) 0)) (by omega) (by decide) (b2i_vnar _) rfl rfl (cu_B13 env u (gN u.2.1 24 (q) 0) (gN u.2.1 23 (q) 0) (true)) dX4_receiveDrop_15 (fun H locs hB => ?_)
  refine lv_aload_n hx hb dX4_receiveDrop_16 rfl (lv_at hl 1 rfl) ?_
  refine w_getN (v := .ref (sA u 5 (gN u.2.1 23 (q) 0))) (fk := 2) hF hB ha1 (cn_14 env (wC u (uB u.2.1 13 (gN u.2.1 24 (q) 0) (gN u.2.1 23 (q) 0) (true))) (q)) rfl in_X0 (by decide) tw_2_160 rfl rfl dX4_receiveDrop_17 ?_
  refine lv_aload_n hx hb dX4_receiveDrop_20 rfl (lv_at hl 1 rfl) ?_
  refine w_getN (v := .ref (sA u 8 (gN u.2.1 24 (q) 0))) (fk := 3) hF hB ha1 (cn_14 env (wC u (uB u.2.1 13 (gN u.2.1 24 (q) 0) (gN u.2.1 23 (q) 0) (true))) (q)) rfl in_X0 (by decide) tw_2_162 rfl rfl dX4_receiveDrop_21 ?_
  refine w_cv (r_VN (As := [.ref (sA u 8 (gN u.2.1 24 (q) 0))]) (rest := []) hF hB (c_X1_unlock l env s0 X (wC u (uB u.2.1 13 (gN u.2.1 24 (q) 0) (gN u.2.1 23 (q) 0) (true))) (sA u 5 (gN u.2.1 23 (q) 0)) (gN u.2.1 23 (q) 0) (⟨(hI.k5 (hI.ms ha1.1).2.1), rfl⟩) (sA u 8 (gN u.2.1 24 (q) 0)) (gN u.2.1 24 (q) 0) (⟨(hI.k8 (hI.ms ha1.1).2.2), rfl⟩) (show SI env (wC u (uB u.2.1 13 (gN u.2.1 24 (q) 0) (gN u.2.1 23 (q) 0) (true))) from hI) hNb hm23) cv_X1_unlock tw_2_238 ⟨rfl, rfl, by decide, by decide⟩ (hB.recv ⟨(hI.k5 (hI.ms ha1.1).2.1), rfl⟩ (cn_5 env (wC u (uB u.2.1 13 (gN u.2.1 24 (q) 0) (gN u.2.1 23 (q) 0) (true))) (gN u.2.1 23 (q) 0)) rfl) rfl hl.1 rfl (lv_room (by decide)) dX4_receiveDrop_24 ⟨Nat.le_of_ble_eq_true rfl, Nat.le_of_ble_eq_true rfl⟩) hB (fun u_3 H locs hq_2 hB => ?_)
  obtain rfl := hq_2
  replace hB : Bd env s0 X (wC u (cUnlock ((uB u.2.1 13 (gN u.2.1 24 (q) 0) (gN u.2.1 23 (q) 0) (true))) (gN u.2.1 23 (q) 0) (gN u.2.1 24 (q) 0) 12)) s H locs := hB
  have hI_4 : SI env (wC u (cUnlock ((uB u.2.1 13 (gN u.2.1 24 (q) 0) (gN u.2.1 23 (q) 0) (true))) (gN u.2.1 23 (q) 0) (gN u.2.1 24 (q) 0) 12)) := SI.sameN (cUnlock_N _ _ _ _) (show SI env (wC u (uB u.2.1 13 (gN u.2.1 24 (q) 0) (gN u.2.1 23 (q) 0) (true))) from hI)
  have hNb_5 : Nb (cUnlock ((uB u.2.1 13 (gN u.2.1 24 (q) 0) (gN u.2.1 23 (q) 0) (true))) (gN u.2.1 23 (q) 0) (gN u.2.1 24 (q) 0) 12) := Nb.ofN (cUnlock_N _ _ _ _) hNb
  exact w_vret hF hr hlocks hB (rfl) dX4_receiveDrop_27
set_option maxHeartbeats 4000000 in
set_option maxRecDepth 100000 in
theorem c_X4_receiveAsk (l : Launch) (env : Ev) (s0 : Nat) (X : va_W) (u : St) (a0 : Nat) (_xa0 : Nat) (ha0 : At u 0 (0) a0) (a1 : Nat) (q : Nat) (ha1 : At u 14 (q) a1) (hZ : SZ env u) (hNb : Nb u.2.1) (hok : Okm u.2.1) : Met l yX4_receiveAsk [Cond.code yX4_receiveAsk cX4_receiveAsk 3 none] { frames := 8, cells := kc (cAsk u.2.1 q) - kc u.2.1, slots := ks (cAsk u.2.1 q) - ks u.2.1, locals := 195 } (va_Pc [.ref (a0), .ref (a1)] (Pr env s0 X u)) (va_Qv (fun u' => ∃ ph, u' = (ph, cAsk u.2.1 (q), u.2.2) ∧ SZ env (ph, cAsk u.2.1 (q), u.2.2) ∧ Kp u (ph, cAsk u.2.1 (q), u.2.2)) (Po env s0 X) (fun q => s0 ≤ q)) (kc (cAsk u.2.1 q) - kc u.2.1) (ks (cAsk u.2.1 q) - ks u.2.1) (fun q => s0 ≤ q) := by
  refine Met.ofW (cc := cX4_receiveAsk) (maxL := 3) (ret := none) (by decide) rfl ?_
  intro p e s m args below meth c s₁ B hml hv
  obtain ⟨rfl, hv⟩ := hv
  have hx := B.exec
  have hb := B.bytes
  have hr := B.returns
  have hts : ∀ ww ∈ TT, ww.before #[.ref (a0), .ref (a1)] s = true := fun ww hw => hv.2.1 ww hw _
  have hown : s.vm.findClass RX4 = some m.cls := findClass_of_methodNamed B.named
  have hlocks := B.notSynchronized
  have hF : CallFix p m c cX4_receiveAsk 3 s #[.ref (a0), .ref (a1)] TT RX4 := ⟨hx, hb, hml, hown, hts⟩
  have hB := Bd.entry hv
  have hl := lv_entry ([.ref (a0), .ref (a1)]) (n := 3) (Nat.le_of_ble_eq_true rfl)
  rw [lg_entry_eq]
  generalize (lg_sl ([.ref (a0), .ref (a1)]) ++ List.replicate (3 - (lg_sl ([.ref (a0), .ref (a1)])).length) Slot.unset).toArray = ls at hl ⊢
  have hl : lv_has ls 3 [(0, .ref (a0)), (1, .ref (a1))] := hl
  have hI := hZ.1
  have hn4 := hI.nst
  have hm22 := (hI.ms ha1.1).1
  have hm23 := (hI.ms ha1.1).2.1
  have hm24 := (hI.ms ha1.1).2.2
  have hn2 := hI.ntx
  have hm26 := (hI.tx (hI.k8 hm24)).2
  refine lv_aload_n hx hb dX4_receiveAsk_0 rfl (lv_at hl 1 rfl) ?_
  refine w_getN (v := .ref (sA u 8 (gN u.2.1 24 (q) 0))) (fk := 3) hF hB ha1 (cn_14 env u (q)) rfl in_X0 (by decide) tw_2_162 rfl rfl dX4_receiveAsk_1 ?_
  refine w_getN (v := .ref (sA u 13 (gN u.2.1 24 (q) 0))) (fk := 6) hF hB ⟨(hI.k8 (hI.ms ha1.1).2.2), rfl⟩ (cn_8 env u (gN u.2.1 24 (q) 0)) rfl in_X3 (by decide) tw_1_231 rfl rfl dX4_receiveAsk_4 ?_
  refine lv_aload_n hx hb dX4_receiveAsk_7 rfl (lv_at hl 1 rfl) ?_
  refine w_getN (v := .ref (sA u 5 (gN u.2.1 23 (q) 0))) (fk := 2) hF hB ha1 (cn_14 env u (q)) rfl in_X0 (by decide) tw_2_160 rfl rfl dX4_receiveAsk_8 ?_
  refine w_getN (v := .int (nI (gN u.2.1 23 (q) 0))) (fk := 0) hF hB ⟨(hI.k5 (hI.ms ha1.1).2.1), rfl⟩ (cn_5 env u (gN u.2.1 23 (q) 0)) rfl in_X1 (by decide) tw_1_64 rfl rfl dX4_receiveAsk_11 ?_
  refine w_zald (v := .int (b2i (gB u.2.1 13 (gN u.2.1 24 (q) 0) (gN u.2.1 23 (q) 0)))) hF hB ⟨(hI.k13 (hI.k8 (hI.ms ha1.1).2.2)), rfl⟩ (cn_13 env u (gN u.2.1 24 (q) 0)) (by omega) rfl (by decide) dX4_receiveAsk_14 ?_
  refine w_ifeq_b (tgt := 19) hx hb dX4_receiveAsk_15 (by decide) (fun c_1 => ?_) (fun c_1 => ?_)
  · refine lv_aload_n hx hb dX4_receiveAsk_19 rfl (lv_at hl 0 rfl) ?_
    refine lv_aload_n hx hb dX4_receiveAsk_20 rfl (lv_at hl 1 rfl) ?_
    refine w_getN (v := .ref (sA u 8 (gN u.2.1 24 (q) 0))) (fk := 3) hF hB ha1 (cn_14 env u (q)) rfl in_X0 (by decide) tw_2_162 rfl rfl dX4_receiveAsk_21 ?_
    refine lv_aload_n hx hb dX4_receiveAsk_24 rfl (lv_at hl 1 rfl) ?_
    refine w_getN (v := .ref (sA u 5 (gN u.2.1 23 (q) 0))) (fk := 2) hF hB ha1 (cn_14 env u (q)) rfl in_X0 (by decide) tw_2_160 rfl rfl dX4_receiveAsk_25 ?_
    refine w_ci (r_V (As := [.ref (sA u 8 (gN u.2.1 24 (q) 0)), .ref (sA u 5 (gN u.2.1 23 (q) 0))]) (rest := []) hF hB (c_X4_allFree l env s0 X u (a0) (0) (ha0) (sA u 8 (gN u.2.1 24 (q) 0)) (gN u.2.1 24 (q) 0) (⟨(hI.k8 (hI.ms ha1.1).2.2), rfl⟩) (sA u 5 (gN u.2.1 23 (q) 0)) (gN u.2.1 23 (q) 0) (⟨(hI.k5 (hI.ms ha1.1).2.1), rfl⟩) hI hNb hm23) cv_X4_allFree tw_2_118 ⟨rfl, rfl, Nat.le_of_ble_eq_true rfl, Nat.le_of_ble_eq_true rfl⟩ (hB.recv ha0 (cn_0 env u (0)) rfl) rfl hl.1 rfl (lv_room (by decide)) dX4_receiveAsk_28 ⟨(by show _ ≤ kc (cAsk u.2.1 q) - kc u.2.1; first | omega | (dsimp only [wC]; omega)), (by show _ ≤ ks (cAsk u.2.1 q) - ks u.2.1; first | omega | (dsimp only [wC]; omega))⟩) hB (fun r_2 u_4 H locs hq_3 hB => ?_)
    obtain ⟨rfl, rfl⟩ := hq_3
    refine lv_istore_n (lv' := [(2, .int (b2i (cAllFree u.2.1 (gN u.2.1 24 (q) 0) (gN u.2.1 23 (q) 0)))), (0, .ref (a0)), (1, .ref (a1))]) hx hb dX4_receiveAsk_31 rfl hl (by decide) rfl (fun ls hl => ?_)
    refine lv_iload_n hx hb dX4_receiveAsk_32 rfl (lv_at hl 0 rfl) ?_
    refine w_ifeq_b (tgt := 48) hx hb dX4_receiveAsk_33 (by decide) (fun c_5 => ?_) (fun c_5 => ?_)
    · refine lv_aload_n hx hb dX4_receiveAsk_48 rfl (lv_at hl 1 rfl) ?_
      refine lv_iload_n hx hb dX4_receiveAsk_49 rfl (lv_at hl 0 rfl) ?_
      refine w_ifeq_b (tgt := 57) hx hb dX4_receiveAsk_50 (by decide) (fun _ => ?_) (fun c => absurd (c_5.symm.trans c) (by decide))
      refine lv_iconst (v := nI 2) hx hb dX4_receiveAsk_57 (by decide) ?_
      have hE : cAsk u.2.1 q = cPost u.2.1 2 (gN u.2.1 23 q 0) (gN u.2.1 22 q 0) (gN u.2.1 24 q 0) := by unfold cAsk; rw [if_neg (by rw [c_1]; decide), if_neg (by rw [c_5]; decide)]
      have hk1 := kc_post u.2.1 2 (gN u.2.1 23 q 0) (gN u.2.1 22 q 0) (gN u.2.1 24 q 0)
      rw [← hE] at hk1
      have hk2 := kc_N (c := u.2.1) (c' := u.2.1) (rfl) (rfl)
      have hrb3 : Rb u.2.1 1 := Rb.N (rfl) (rfl) (hok.1.le (by decide))
      have h223 : gN u.2.1 22 q 0 < 4 := hm22
      have h233 : gN u.2.1 23 q 0 < 4 := hm23
      have h243 : gN u.2.1 24 q 0 < gN u.2.1 3 1 0 := hm24
      refine lv_aload_n hx hb dX4_receiveAsk_58 rfl (lv_at hl 2 rfl) ?_
      refine w_getN (v := .ref (sA u 5 (gN u.2.1 23 (q) 0))) (fk := 2) hF hB ha1 (cn_14 env u (q)) rfl in_X0 (by decide) tw_2_160 rfl rfl dX4_receiveAsk_59 ?_
      refine lv_aload_n hx hb dX4_receiveAsk_62 rfl (lv_at hl 2 rfl) ?_
      refine w_getN (v := .ref (sA u 5 (gN u.2.1 22 (q) 0))) (fk := 1) hF hB ha1 (cn_14 env u (q)) rfl in_X0 (by decide) tw_2_158 rfl rfl dX4_receiveAsk_63 ?_
      refine lv_aload_n hx hb dX4_receiveAsk_66 rfl (lv_at hl 2 rfl) ?_
      refine w_getN (v := .ref (sA u 8 (gN u.2.1 24 (q) 0))) (fk := 3) hF hB ha1 (cn_14 env u (q)) rfl in_X0 (by decide) tw_2_162 rfl rfl dX4_receiveAsk_67 ?_
      refine w_cv (r_V (As := [.int (nI (2)), .ref (sA u 5 (gN u.2.1 23 (q) 0)), .ref (sA u 5 (gN u.2.1 22 (q) 0)), .ref (sA u 8 (gN u.2.1 24 (q) 0))]) (rest := []) hF hB (c_X4_post l env s0 X u (a0) (0) (ha0) (2) (sA u 5 (gN u.2.1 23 (q) 0)) (gN u.2.1 23 (q) 0) (⟨(hI.k5 (hI.ms ha1.1).2.1), rfl⟩) (sA u 5 (gN u.2.1 22 (q) 0)) (gN u.2.1 22 (q) 0) (⟨(hI.k5 (hI.ms ha1.1).1), rfl⟩) (sA u 8 (gN u.2.1 24 (q) 0)) (gN u.2.1 24 (q) 0) (⟨(hI.k8 (hI.ms ha1.1).2.2), rfl⟩) hZ hNb hrb3 (by omega) (by omega)) cv_X4_post tw_2_145 ⟨rfl, rfl, Nat.le_of_ble_eq_true rfl, Nat.le_of_ble_eq_true rfl⟩ (hB.recv ha0 (cn_0 env u (0)) rfl) rfl hl.1 rfl (lv_room (by decide)) dX4_receiveAsk_70 ⟨(by show _ ≤ kc (cAsk u.2.1 q) - kc u.2.1; first | omega | (dsimp only [wC]; omega)), (by show _ ≤ ks (cAsk u.2.1 q) - ks u.2.1; first | omega | (dsimp only [wC]; omega))⟩) hB (fun u_8 H locs hq_7 hB => ?_)
      obtain ⟨ph_9, rfl, hZ_10, hK_11⟩ := hq_7
      replace hB : Bd env s0 X (ph_9, (cPost u.2.1 (2) (gN u.2.1 23 (q) 0) (gN u.2.1 22 (q) 0) (gN u.2.1 24 (q) 0)), u.2.2) s H locs := hB
      replace hZ_10 : SZ env (ph_9, (cPost u.2.1 (2) (gN u.2.1 23 (q) 0) (gN u.2.1 22 (q) 0) (gN u.2.1 24 (q) 0)), u.2.2) := hZ_10
      replace hK_11 : Kp u (ph_9, (cPost u.2.1 (2) (gN u.2.1 23 (q) 0) (gN u.2.1 22 (q) 0) (gN u.2.1 24 (q) 0)), u.2.2) := hK_11
      obtain ⟨T_12, hT_12⟩ : ∃ T, T = (cPost u.2.1 (2) (gN u.2.1 23 (q) 0) (gN u.2.1 22 (q) 0) (gN u.2.1 24 (q) 0)) := ⟨_, rfl⟩
      rw [← hT_12] at hB hZ_10 hK_11
      have hI_13 : SI env (ph_9, T_12, u.2.2) := hZ_10.1
      have hNb_14 : Nb T_12 := by rw [hT_12]; exact Nb.post hNb hrb3 (by omega) (by omega) (by omega) (by omega)
      have hKp_15 : Kp u (ph_9, T_12, u.2.2) := hK_11
      show W p l e _ s m _ below meth c H locs _ _ _ (F0 m _ ls [])
      refine W.widen (k := kc (cAsk u.2.1 q) - kc u.2.1) (n := ks (cAsk u.2.1 q) - ks u.2.1) (by first | omega | (dsimp only [wC]; omega)) (by first | omega | (dsimp only [wC]; omega)) ?_
      exact w_vret hF hr hlocks hB ((by rw [hE, ← hT_12]; exact ⟨_, rfl, hZ_10, hKp_15⟩)) dX4_receiveAsk_73
    · refine lv_aload_n hx hb dX4_receiveAsk_36 rfl (lv_at hl 1 rfl) ?_
      refine lv_aload_n hx hb dX4_receiveAsk_37 rfl (lv_at hl 2 rfl) ?_
      refine w_getN (v := .ref (sA u 8 (gN u.2.1 24 (q) 0))) (fk := 3) hF hB ha1 (cn_14 env u (q)) rfl in_X0 (by decide) tw_2_162 rfl rfl dX4_receiveAsk_38 ?_
      refine lv_aload_n hx hb dX4_receiveAsk_41 rfl (lv_at hl 2 rfl) ?_
      refine w_getN (v := .ref (sA u 5 (gN u.2.1 23 (q) 0))) (fk := 2) hF hB ha1 (cn_14 env u (q)) rfl in_X0 (by decide) tw_2_160 rfl rfl dX4_receiveAsk_42 ?_
      refine w_cv (r_V (As := [.ref (sA u 8 (gN u.2.1 24 (q) 0)), .ref (sA u 5 (gN u.2.1 23 (q) 0))]) (rest := []) hF hB (c_X4_lockThings l env s0 X u (a0) (0) (ha0) (sA u 8 (gN u.2.1 24 (q) 0)) (gN u.2.1 24 (q) 0) (⟨(hI.k8 (hI.ms ha1.1).2.2), rfl⟩) (sA u 5 (gN u.2.1 23 (q) 0)) (gN u.2.1 23 (q) 0) (⟨(hI.k5 (hI.ms ha1.1).2.1), rfl⟩) hI hNb hm23) cv_X4_lockThings tw_2_137 ⟨rfl, rfl, Nat.le_of_ble_eq_true rfl, Nat.le_of_ble_eq_true rfl⟩ (hB.recv ha0 (cn_0 env u (0)) rfl) rfl hl.1 rfl (lv_room (by decide)) dX4_receiveAsk_45 ⟨(by show _ ≤ kc (cAsk u.2.1 q) - kc u.2.1; first | omega | (dsimp only [wC]; omega)), (by show _ ≤ ks (cAsk u.2.1 q) - ks u.2.1; first | omega | (dsimp only [wC]; omega))⟩) hB (fun u_18 H locs hq_17 hB => ?_)
      obtain rfl := hq_17
      replace hB : Bd env s0 X (wC u (cLock u.2.1 (gN u.2.1 24 (q) 0) (gN u.2.1 23 (q) 0) (gN u.2.1 3 0 0))) s H locs := hB
      obtain ⟨T_19, hT_19⟩ : ∃ T, T = (cLock u.2.1 (gN u.2.1 24 (q) 0) (gN u.2.1 23 (q) 0) (gN u.2.1 3 0 0)) := ⟨_, rfl⟩
      rw [← hT_19] at hB
      have hI_20 : SI env (wC u T_19) := by rw [hT_19]; exact SI.sameN (cLock_N _ _ _ _) hI
      have hNb_21 : Nb T_19 := by rw [hT_19]; exact Nb.ofN (cLock_N _ _ _ _) hNb
      refine lv_aload_n hx hb dX4_receiveAsk_48 rfl (lv_at hl 1 rfl) ?_
      refine lv_iload_n hx hb dX4_receiveAsk_49 rfl (lv_at hl 0 rfl) ?_
      refine w_ifeq_b (tgt := 57) hx hb dX4_receiveAsk_50 (by decide) (fun c => absurd (c_5.symm.trans c) (by decide)) (fun _ => ?_)
      refine lv_iconst (v := nI 1) hx hb dX4_receiveAsk_53 (by decide) ?_
      refine lv_goto (tgt := 58) hx hb dX4_receiveAsk_54 (by decide) ?_
      have hE : cAsk u.2.1 q = cPost T_19 1 (gN T_19 23 q 0) (gN T_19 22 q 0) (gN T_19 24 q 0) := by rw [hT_19]; unfold cAsk; rw [if_neg (by rw [c_1]; decide), if_pos c_5]
      have hk1 := kc_post T_19 1 (gN T_19 23 q 0) (gN T_19 22 q 0) (gN T_19 24 q 0)
      rw [← hE] at hk1
      have hk2 := kc_N (c := u.2.1) (c' := T_19) (by rw [hT_19, cLock_N]) (by rw [hT_19, cLock_N])
      have hrb3 : Rb T_19 1 := Rb.N (by rw [hT_19, cLock_N]) (by rw [hT_19, cLock_N]) (hok.1.le (by decide))
      have h223 : gN T_19 22 q 0 < 4 := by rw [hT_19, cLock_N]; exact hm22
      have h233 : gN T_19 23 q 0 < 4 := by rw [hT_19, cLock_N]; exact hm23
      have h243 : gN T_19 24 q 0 < gN u.2.1 3 1 0 := by rw [hT_19, cLock_N]; exact hm24
      have hZ3 : SZ env (wC u T_19) := SZ.cn hZ (fun f hf => by rw [hT_19, cLock_N])
      refine lv_aload_n hx hb dX4_receiveAsk_58 rfl (lv_at hl 2 rfl) ?_
      refine w_getN (v := .ref (sA u 5 (gN T_19 23 (q) 0))) (fk := 2) hF hB ha1 (cn_14 env (wC u T_19) (q)) rfl in_X0 (by decide) tw_2_160 rfl rfl dX4_receiveAsk_59 ?_
      refine lv_aload_n hx hb dX4_receiveAsk_62 rfl (lv_at hl 2 rfl) ?_
      refine w_getN (v := .ref (sA u 5 (gN T_19 22 (q) 0))) (fk := 1) hF hB ha1 (cn_14 env (wC u T_19) (q)) rfl in_X0 (by decide) tw_2_158 rfl rfl dX4_receiveAsk_63 ?_
      refine lv_aload_n hx hb dX4_receiveAsk_66 rfl (lv_at hl 2 rfl) ?_
      refine w_getN (v := .ref (sA u 8 (gN T_19 24 (q) 0))) (fk := 3) hF hB ha1 (cn_14 env (wC u T_19) (q)) rfl in_X0 (by decide) tw_2_162 rfl rfl dX4_receiveAsk_67 ?_
      refine w_cv (r_V (As := [.int (nI (1)), .ref (sA u 5 (gN T_19 23 (q) 0)), .ref (sA u 5 (gN T_19 22 (q) 0)), .ref (sA u 8 (gN T_19 24 (q) 0))]) (rest := []) hF hB (c_X4_post l env s0 X (wC u T_19) (a0) (0) (ha0) (1) (sA u 5 (gN T_19 23 (q) 0)) (gN T_19 23 (q) 0) (⟨(hI_20.k5 (hI_20.ms ha1.1).2.1), rfl⟩) (sA u 5 (gN T_19 22 (q) 0)) (gN T_19 22 (q) 0) (⟨(hI_20.k5 (hI_20.ms ha1.1).1), rfl⟩) (sA u 8 (gN T_19 24 (q) 0)) (gN T_19 24 (q) 0) (⟨(hI_20.k8 (hI_20.ms ha1.1).2.2), rfl⟩) hZ3 hNb_21 hrb3 (by omega) (by omega)) cv_X4_post tw_2_145 ⟨rfl, rfl, Nat.le_of_ble_eq_true rfl, Nat.le_of_ble_eq_true rfl⟩ (hB.recv ha0 (cn_0 env (wC u T_19) (0)) rfl) rfl hl.1 rfl (lv_room (by decide)) dX4_receiveAsk_70 ⟨(by show _ ≤ kc (cAsk u.2.1 q) - kc u.2.1; first | omega | (dsimp only [wC]; omega)), (by show _ ≤ ks (cAsk u.2.1 q) - ks u.2.1; first | omega | (dsimp only [wC]; omega))⟩) hB (fun u_24 H locs hq_23 hB => ?_)
      obtain ⟨ph_25, rfl, hZ_26, hK_27⟩ := hq_23
      replace hB : Bd env s0 X (ph_25, (cPost T_19 (1) (gN T_19 23 (q) 0) (gN T_19 22 (q) 0) (gN T_19 24 (q) 0)), u.2.2) s H locs := hB
      replace hZ_26 : SZ env (ph_25, (cPost T_19 (1) (gN T_19 23 (q) 0) (gN T_19 22 (q) 0) (gN T_19 24 (q) 0)), u.2.2) := hZ_26
      replace hK_27 : Kp (wC u T_19) (ph_25, (cPost T_19 (1) (gN T_19 23 (q) 0) (gN T_19 22 (q) 0) (gN T_19 24 (q) 0)), u.2.2) := hK_27
      obtain ⟨T_28, hT_28⟩ : ∃ T, T = (cPost T_19 (1) (gN T_19 23 (q) 0) (gN T_19 22 (q) 0) (gN T_19 24 (q) 0)) := ⟨_, rfl⟩
      rw [← hT_28] at hB hZ_26 hK_27
      have hI_29 : SI env (ph_25, T_28, u.2.2) := hZ_26.1
      have hNb_30 : Nb T_28 := by rw [hT_28]; exact Nb.post hNb_21 hrb3 (by omega) (by omega) (by omega) (by omega)
      have hKp_31 : Kp u (ph_25, T_28, u.2.2) := hK_27
      show W p l e _ s m _ below meth c H locs _ _ _ (F0 m _ ls [])
      refine W.widen (k := kc (cAsk u.2.1 q) - kc u.2.1) (n := ks (cAsk u.2.1 q) - ks u.2.1) (by first | omega | (dsimp only [wC]; omega)) (by first | omega | (dsimp only [wC]; omega)) ?_
      exact w_vret hF hr hlocks hB ((by rw [hE, ← hT_28]; exact ⟨_, rfl, hZ_26, hKp_31⟩)) dX4_receiveAsk_73
  · refine W.widen (k := kc (cAsk u.2.1 q) - kc u.2.1) (n := ks (cAsk u.2.1 q) - ks u.2.1) (by first | omega | (dsimp only [wC]; omega)) (by first | omega | (dsimp only [wC]; omega)) ?_
    exact w_vret hF hr hlocks hB ((by rw [show cAsk u.2.1 q = u.2.1 from by unfold cAsk; exact if_pos c_1]; exact ⟨u.1, rfl, hZ, Kp.rf u⟩)) dX4_receiveAsk_18
set_option maxHeartbeats 4000000 in
set_option maxRecDepth 100000 in
theorem c_X4_receiveSend (l : Launch) (env : Ev) (s0 : Nat) (X : va_W) (u : St) (a0 : Nat) (_xa0 : Nat) (ha0 : At u 0 (0) a0) (a1 : Nat) (q : Nat) (ha1 : At u 14 (q) a1) (hZ : SZ env u) (hNb : Nb u.2.1) (hok : Okm u.2.1) : Met l yX4_receiveSend [Cond.code yX4_receiveSend cX4_receiveSend 2 none] { frames := 8, cells := kc (cSend u.2.1 q) - kc u.2.1, slots := ks (cSend u.2.1 q) - ks u.2.1, locals := 195 } (va_Pc [.ref (a0), .ref (a1)] (Pr env s0 X u)) (va_Qv (fun u' => ∃ ph, u' = (ph, cSend u.2.1 (q), u.2.2) ∧ SZ env (ph, cSend u.2.1 (q), u.2.2) ∧ Kp u (ph, cSend u.2.1 (q), u.2.2)) (Po env s0 X) (fun q => s0 ≤ q)) (kc (cSend u.2.1 q) - kc u.2.1) (ks (cSend u.2.1 q) - ks u.2.1) (fun q => s0 ≤ q) := by
  refine Met.ofW (cc := cX4_receiveSend) (maxL := 2) (ret := none) (by decide) rfl ?_
  intro p e s m args below meth c s₁ B hml hv
  obtain ⟨rfl, hv⟩ := hv
  have hx := B.exec
  have hb := B.bytes
  have hr := B.returns
  have hts : ∀ ww ∈ TT, ww.before #[.ref (a0), .ref (a1)] s = true := fun ww hw => hv.2.1 ww hw _
  have hown : s.vm.findClass RX4 = some m.cls := findClass_of_methodNamed B.named
  have hlocks := B.notSynchronized
  have hF : CallFix p m c cX4_receiveSend 2 s #[.ref (a0), .ref (a1)] TT RX4 := ⟨hx, hb, hml, hown, hts⟩
  have hB := Bd.entry hv
  have hl := lv_entry ([.ref (a0), .ref (a1)]) (n := 2) (Nat.le_of_ble_eq_true rfl)
  rw [lg_entry_eq]
  generalize (lg_sl ([.ref (a0), .ref (a1)]) ++ List.replicate (2 - (lg_sl ([.ref (a0), .ref (a1)])).length) Slot.unset).toArray = ls at hl ⊢
  have hl : lv_has ls 2 [(0, .ref (a0)), (1, .ref (a1))] := hl
  have hI := hZ.1
  have hn4 := hI.nst
  have hm22 := (hI.ms ha1.1).1
  have hm23 := (hI.ms ha1.1).2.1
  have hm24 := (hI.ms ha1.1).2.2
  have hn2 := hI.ntx
  have hm26 := (hI.tx (hI.k8 hm24)).2
  have hk0 := kc_send u.2.1 q hm23
  refine lv_aload_n hx hb dX4_receiveSend_0 rfl (lv_at hl 1 rfl) ?_
  refine w_getN (v := .ref (sA u 5 (gN u.2.1 23 (q) 0))) (fk := 2) hF hB ha1 (cn_14 env u (q)) rfl in_X0 (by decide) tw_2_160 rfl rfl dX4_receiveSend_1 ?_
  refine lv_aload_n hx hb dX4_receiveSend_4 rfl (lv_at hl 1 rfl) ?_
  refine w_getN (v := .ref (sA u 8 (gN u.2.1 24 (q) 0))) (fk := 3) hF hB ha1 (cn_14 env u (q)) rfl in_X0 (by decide) tw_2_162 rfl rfl dX4_receiveSend_5 ?_
  refine w_cv (r_VN (As := [.ref (sA u 8 (gN u.2.1 24 (q) 0))]) (rest := []) hF hB (c_X1_take l env s0 X u (sA u 5 (gN u.2.1 23 (q) 0)) (gN u.2.1 23 (q) 0) (⟨(hI.k5 (hI.ms ha1.1).2.1), rfl⟩) (sA u 8 (gN u.2.1 24 (q) 0)) (gN u.2.1 24 (q) 0) (⟨(hI.k8 (hI.ms ha1.1).2.2), rfl⟩) hZ hNb hm23 (hok.2.1 _ hm23) (hok.2.2 _ _)) cv_X1_take tw_2_180 ⟨rfl, rfl, Nat.le_of_ble_eq_true rfl, Nat.le_of_ble_eq_true rfl⟩ (hB.recv ⟨(hI.k5 (hI.ms ha1.1).2.1), rfl⟩ (cn_5 env u (gN u.2.1 23 (q) 0)) rfl) rfl hl.1 rfl (lv_room (by decide)) dX4_receiveSend_8 ⟨(by show _ ≤ kc (cSend u.2.1 q) - kc u.2.1; first | omega | (dsimp only [wC]; omega)), (by show _ ≤ ks (cSend u.2.1 q) - ks u.2.1; first | omega | (dsimp only [wC]; omega))⟩) hB (fun u_3 H locs hq_2 hB => ?_)
  obtain ⟨ph_4, rfl, hZ_5, hK_6⟩ := hq_2
  replace hB : Bd env s0 X (ph_4, (cTake u.2.1 (gN u.2.1 23 (q) 0) (gN u.2.1 24 (q) 0)), u.2.2) s H locs := hB
  replace hZ_5 : SZ env (ph_4, (cTake u.2.1 (gN u.2.1 23 (q) 0) (gN u.2.1 24 (q) 0)), u.2.2) := hZ_5
  replace hK_6 : Kp u (ph_4, (cTake u.2.1 (gN u.2.1 23 (q) 0) (gN u.2.1 24 (q) 0)), u.2.2) := hK_6
  obtain ⟨T_7, hT_7⟩ : ∃ T, T = (cTake u.2.1 (gN u.2.1 23 (q) 0) (gN u.2.1 24 (q) 0)) := ⟨_, rfl⟩
  rw [← hT_7] at hB hZ_5 hK_6
  have hI_8 : SI env (ph_4, T_7, u.2.2) := hZ_5.1
  have hNb_9 : Nb T_7 := by rw [hT_7]; exact Nb.take hNb (hok.2.2 _ _) (hok.2.1 _ hm23) (by omega)
  have hKp_10 : Kp u (ph_4, T_7, u.2.2) := hK_6
  have hc3 : T_7 = cSd1 u.2.1 q := hT_7
  have hkA := kc_take u.2.1 (gN u.2.1 24 q 0) hm23
  have hrb3 : Rb T_7 1 := by rw [hT_7]; exact Rb.take (hok.1.le (by decide)) _ _
  have h223 : gN T_7 22 q 0 < 4 := by rw [hT_7, cTake_N _ _ _ (by decide)]; exact hm22
  have h233 : gN T_7 23 q 0 < 4 := by rw [hT_7, cTake_N _ _ _ (by decide)]; exact hm23
  have h243 : gN T_7 24 q 0 < gN u.2.1 3 1 0 := by rw [hT_7, cTake_N _ _ _ (by decide)]; exact hm24
  show W p l e _ s m _ below meth c H locs _ _ _ (F0 m _ ls [])
  refine lv_aload_n hx hb dX4_receiveSend_11 rfl (lv_at hl 0 rfl) ?_
  refine lv_iconst (v := nI 5) hx hb dX4_receiveSend_12 (by decide) ?_
  refine lv_aload_n hx hb dX4_receiveSend_13 rfl (lv_at hl 1 rfl) ?_
  refine w_getN (v := .ref (sA (ph_4, T_7, u.2.2) 5 (gN T_7 23 (q) 0))) (fk := 2) hF hB (hK_6.at (by decide) ha1) (cn_14 env (ph_4, T_7, u.2.2) (q)) rfl in_X0 (by decide) tw_2_160 rfl rfl dX4_receiveSend_14 ?_
  refine lv_aload_n hx hb dX4_receiveSend_17 rfl (lv_at hl 1 rfl) ?_
  refine w_getN (v := .ref (sA (ph_4, T_7, u.2.2) 5 (gN T_7 22 (q) 0))) (fk := 1) hF hB (hK_6.at (by decide) ha1) (cn_14 env (ph_4, T_7, u.2.2) (q)) rfl in_X0 (by decide) tw_2_158 rfl rfl dX4_receiveSend_18 ?_
  refine lv_aload_n hx hb dX4_receiveSend_21 rfl (lv_at hl 1 rfl) ?_
  refine w_getN (v := .ref (sA (ph_4, T_7, u.2.2) 8 (gN T_7 24 (q) 0))) (fk := 3) hF hB (hK_6.at (by decide) ha1) (cn_14 env (ph_4, T_7, u.2.2) (q)) rfl in_X0 (by decide) tw_2_162 rfl rfl dX4_receiveSend_22 ?_
  refine w_cv (r_V (As := [.int (nI (5)), .ref (sA (ph_4, T_7, u.2.2) 5 (gN T_7 23 (q) 0)), .ref (sA (ph_4, T_7, u.2.2) 5 (gN T_7 22 (q) 0)), .ref (sA (ph_4, T_7, u.2.2) 8 (gN T_7 24 (q) 0))]) (rest := []) hF hB (c_X4_post l env s0 X (ph_4, T_7, u.2.2) (a0) (0) ((hK_6.at (by decide) ha0)) (5) (sA (ph_4, T_7, u.2.2) 5 (gN T_7 23 (q) 0)) (gN T_7 23 (q) 0) (⟨(hI_8.k5 (hI_8.ms (hK_6 _ _ (by decide) ha1.1).1).2.1), rfl⟩) (sA (ph_4, T_7, u.2.2) 5 (gN T_7 22 (q) 0)) (gN T_7 22 (q) 0) (⟨(hI_8.k5 (hI_8.ms (hK_6 _ _ (by decide) ha1.1).1).1), rfl⟩) (sA (ph_4, T_7, u.2.2) 8 (gN T_7 24 (q) 0)) (gN T_7 24 (q) 0) (⟨(hI_8.k8 (hI_8.ms (hK_6 _ _ (by decide) ha1.1).1).2.2), rfl⟩) hZ_5 hNb_9 hrb3 (by omega) (by omega)) cv_X4_post tw_2_145 ⟨rfl, rfl, Nat.le_of_ble_eq_true rfl, Nat.le_of_ble_eq_true rfl⟩ (hB.recv (hK_6.at (by decide) ha0) (cn_0 env (ph_4, T_7, u.2.2) (0)) rfl) rfl hl.1 rfl (lv_room (by decide)) dX4_receiveSend_25 ⟨(by show _ ≤ kc (cSend u.2.1 q) - kc u.2.1; first | omega | (dsimp only [wC]; omega)), (by show _ ≤ ks (cSend u.2.1 q) - ks u.2.1; first | omega | (dsimp only [wC]; omega))⟩) hB (fun u_13 H locs hq_12 hB => ?_)
  obtain ⟨ph_14, rfl, hZ_15, hK_16⟩ := hq_12
  replace hB : Bd env s0 X (ph_14, (cPost T_7 (5) (gN T_7 23 (q) 0) (gN T_7 22 (q) 0) (gN T_7 24 (q) 0)), u.2.2) s H locs := hB
  replace hZ_15 : SZ env (ph_14, (cPost T_7 (5) (gN T_7 23 (q) 0) (gN T_7 22 (q) 0) (gN T_7 24 (q) 0)), u.2.2) := hZ_15
  replace hK_16 : Kp (ph_4, T_7, u.2.2) (ph_14, (cPost T_7 (5) (gN T_7 23 (q) 0) (gN T_7 22 (q) 0) (gN T_7 24 (q) 0)), u.2.2) := hK_16
  obtain ⟨T_17, hT_17⟩ : ∃ T, T = (cPost T_7 (5) (gN T_7 23 (q) 0) (gN T_7 22 (q) 0) (gN T_7 24 (q) 0)) := ⟨_, rfl⟩
  rw [← hT_17] at hB hZ_15 hK_16
  have hI_18 : SI env (ph_14, T_17, u.2.2) := hZ_15.1
  have hNb_19 : Nb T_17 := by rw [hT_17]; exact Nb.post hNb_9 hrb3 (by omega) (by omega) (by omega) (by omega)
  have hKp_20 : Kp u (ph_14, T_17, u.2.2) := Kp.tr hKp_10 hK_16
  show W p l e _ s m _ below meth c H locs _ _ _ (F0 m _ ls [])
  refine W.widen (k := kc (cSend u.2.1 q) - kc u.2.1) (n := ks (cSend u.2.1 q) - ks u.2.1) (by first | omega | (dsimp only [wC]; omega)) (by first | omega | (dsimp only [wC]; omega)) ?_
  exact w_vret hF hr hlocks hB ((by rw [show cSend u.2.1 q = cPost (cSd1 u.2.1 q) 5 (gN (cSd1 u.2.1 q) 23 q 0) (gN (cSd1 u.2.1 q) 22 q 0) (gN (cSd1 u.2.1 q) 24 q 0) from rfl, ← hc3, ← hT_17]; exact ⟨_, rfl, hZ_15, hKp_20⟩)) dX4_receiveSend_28
set_option maxHeartbeats 4000000 in
set_option maxRecDepth 100000 in
theorem c_X4_receive (l : Launch) (env : Ev) (s0 : Nat) (X : va_W) (u : St) (a0 : Nat) (_xa0 : Nat) (ha0 : At u 0 (0) a0) (a1 : Nat) (q : Nat) (ha1 : At u 14 (q) a1) (hZ : SZ env u) (hNb : Nb u.2.1) (hok : Okc u.2.1) : Met l yX4_receive [Cond.code yX4_receive cX4_receive 2 none] { frames := 11, cells := kc (cRecv u.2.1 q) - kc u.2.1, slots := ks (cRecv u.2.1 q) - ks u.2.1, locals := 260 } (va_Pc [.ref (a0), .ref (a1)] (Pr env s0 X u)) (va_Qv (fun u' => ∃ ph, u' = (ph, cRecv u.2.1 (q), u.2.2) ∧ SZ env (ph, cRecv u.2.1 (q), u.2.2) ∧ Kp u (ph, cRecv u.2.1 (q), u.2.2)) (Po env s0 X) (fun q => s0 ≤ q)) (kc (cRecv u.2.1 q) - kc u.2.1) (ks (cRecv u.2.1 q) - ks u.2.1) (fun q => s0 ≤ q) := by
  refine Met.ofW (cc := cX4_receive) (maxL := 2) (ret := none) (by decide) rfl ?_
  intro p e s m args below meth c s₁ B hml hv
  obtain ⟨rfl, hv⟩ := hv
  have hx := B.exec
  have hb := B.bytes
  have hr := B.returns
  have hts : ∀ ww ∈ TT, ww.before #[.ref (a0), .ref (a1)] s = true := fun ww hw => hv.2.1 ww hw _
  have hown : s.vm.findClass RX4 = some m.cls := findClass_of_methodNamed B.named
  have hlocks := B.notSynchronized
  have hF : CallFix p m c cX4_receive 2 s #[.ref (a0), .ref (a1)] TT RX4 := ⟨hx, hb, hml, hown, hts⟩
  have hB := Bd.entry hv
  have hl := lv_entry ([.ref (a0), .ref (a1)]) (n := 2) (Nat.le_of_ble_eq_true rfl)
  rw [lg_entry_eq]
  generalize (lg_sl ([.ref (a0), .ref (a1)]) ++ List.replicate (2 - (lg_sl ([.ref (a0), .ref (a1)])).length) Slot.unset).toArray = ls at hl ⊢
  have hl : lv_has ls 2 [(0, .ref (a0)), (1, .ref (a1))] := hl
  have hI := hZ.1
  have hn4 := hI.nst
  have hm22 := (hI.ms ha1.1).1
  have hm23 := (hI.ms ha1.1).2.1
  have hm24 := (hI.ms ha1.1).2.2
  have hn2 := hI.ntx
  have hm26 := (hI.tx (hI.k8 hm24)).2
  have h20 := hok.2 (gN u.2.1 24 q 0)
  refine lv_aload_n hx hb dX4_receive_0 rfl (lv_at hl 1 rfl) ?_
  refine w_getN (v := .int (nI (gN u.2.1 21 (q) (0)))) (fk := 0) hF hB ha1 (cn_14 env u (q)) rfl in_X0 (by decide) tw_2_156 rfl rfl dX4_receive_1 ?_
  by_cases c_1 : gN u.2.1 21 (q) (0) = 0
  · refine lv_tableIn (tgt := 40) hx hb dX4_receive_4 (by rw [c_1]; decide) (by rw [c_1]; decide) (by rw [c_1]; rfl) (by decide) ?_
    have hE : cRecv u.2.1 q = cAsk u.2.1 q := by unfold cRecv; rw [if_pos c_1]
    have hkE : kc (cRecv u.2.1 q) = kc (cAsk u.2.1 q) ∧ ks (cRecv u.2.1 q) = ks (cAsk u.2.1 q) := by rw [hE]; exact ⟨rfl, rfl⟩
    refine lv_aload_n hx hb dX4_receive_40 rfl (lv_at hl 0 rfl) ?_
    refine lv_aload_n hx hb dX4_receive_41 rfl (lv_at hl 1 rfl) ?_
    refine w_cv (r_V (As := [.ref (a1)]) (rest := []) hF hB (c_X4_receiveAsk l env s0 X u (a0) (0) (ha0) (a1) (q) (ha1) hZ hNb hok.1) cv_X4_receiveAsk tw_2_226 ⟨rfl, rfl, Nat.le_of_ble_eq_true rfl, Nat.le_of_ble_eq_true rfl⟩ (hB.recv ha0 (cn_0 env u (0)) rfl) rfl hl.1 rfl (lv_room (by decide)) dX4_receive_42 ⟨(by show _ ≤ kc (cRecv u.2.1 q) - kc u.2.1; first | omega | (dsimp only [wC]; omega)), (by show _ ≤ ks (cRecv u.2.1 q) - ks u.2.1; first | omega | (dsimp only [wC]; omega))⟩) hB (fun u_4 H locs hq_3 hB => ?_)
    obtain ⟨ph_5, rfl, hZ_6, hK_7⟩ := hq_3
    replace hB : Bd env s0 X (ph_5, (cAsk u.2.1 (q)), u.2.2) s H locs := hB
    replace hZ_6 : SZ env (ph_5, (cAsk u.2.1 (q)), u.2.2) := hZ_6
    replace hK_7 : Kp u (ph_5, (cAsk u.2.1 (q)), u.2.2) := hK_7
    obtain ⟨T_8, hT_8⟩ : ∃ T, T = (cAsk u.2.1 (q)) := ⟨_, rfl⟩
    rw [← hT_8] at hB hZ_6 hK_7
    have hI_9 : SI env (ph_5, T_8, u.2.2) := hZ_6.1
    have hNb_10 : Nb T_8 := by rw [hT_8]; exact Nb.ask hNb hok.1 hm22 hm23 (by omega)
    have hKp_11 : Kp u (ph_5, T_8, u.2.2) := hK_7
    show W p l e _ s m _ below meth c H locs _ _ _ (F0 m _ ls [])
    refine lv_goto (tgt := 99) hx hb dX4_receive_45 (by decide) ?_
    refine W.widen (k := kc (cRecv u.2.1 q) - kc u.2.1) (n := ks (cRecv u.2.1 q) - ks u.2.1) (by first | omega | (dsimp only [wC]; omega)) (by first | omega | (dsimp only [wC]; omega)) ?_
    exact w_vret hF hr hlocks hB ((by rw [hE, ← hT_8]; exact ⟨_, rfl, hZ_6, hKp_11⟩)) dX4_receive_99
  by_cases c_12 : gN u.2.1 21 (q) (0) = 1
  · refine lv_tableIn (tgt := 48) hx hb dX4_receive_4 (by rw [c_12]; decide) (by rw [c_12]; decide) (by rw [c_12]; rfl) (by decide) ?_
    have hE : cRecv u.2.1 q = cYes u.2.1 (gN u.2.1 24 q 0) := by unfold cRecv; rw [if_neg c_1, if_pos c_12]
    have hkE : kc (cRecv u.2.1 q) = kc (cYes u.2.1 (gN u.2.1 24 q 0)) ∧ ks (cRecv u.2.1 q) = ks (cYes u.2.1 (gN u.2.1 24 q 0)) := by rw [hE]; exact ⟨rfl, rfl⟩
    refine lv_aload_n hx hb dX4_receive_48 rfl (lv_at hl 0 rfl) ?_
    refine lv_aload_n hx hb dX4_receive_49 rfl (lv_at hl 1 rfl) ?_
    refine w_getN (v := .ref (sA u 8 (gN u.2.1 24 (q) 0))) (fk := 3) hF hB ha1 (cn_14 env u (q)) rfl in_X0 (by decide) tw_2_162 rfl rfl dX4_receive_50 ?_
    refine w_cv (r_V (As := [.ref (sA u 8 (gN u.2.1 24 (q) 0))]) (rest := []) hF hB (c_X4_receiveYes l env s0 X u (a0) (0) (ha0) (sA u 8 (gN u.2.1 24 (q) 0)) (gN u.2.1 24 (q) 0) (⟨(hI.k8 (hI.ms ha1.1).2.2), rfl⟩) hZ hNb hok) cv_X4_receiveYes tw_2_230 ⟨rfl, rfl, Nat.le_of_ble_eq_true rfl, Nat.le_of_ble_eq_true rfl⟩ (hB.recv ha0 (cn_0 env u (0)) rfl) rfl hl.1 rfl (lv_room (by decide)) dX4_receive_53 ⟨(by show _ ≤ kc (cRecv u.2.1 q) - kc u.2.1; first | omega | (dsimp only [wC]; omega)), (by show _ ≤ ks (cRecv u.2.1 q) - ks u.2.1; first | omega | (dsimp only [wC]; omega))⟩) hB (fun u_15 H locs hq_14 hB => ?_)
    obtain ⟨ph_16, rfl, hZ_17, hK_18⟩ := hq_14
    replace hB : Bd env s0 X (ph_16, (cYes u.2.1 (gN u.2.1 24 (q) 0)), u.2.2) s H locs := hB
    replace hZ_17 : SZ env (ph_16, (cYes u.2.1 (gN u.2.1 24 (q) 0)), u.2.2) := hZ_17
    replace hK_18 : Kp u (ph_16, (cYes u.2.1 (gN u.2.1 24 (q) 0)), u.2.2) := hK_18
    obtain ⟨T_19, hT_19⟩ : ∃ T, T = (cYes u.2.1 (gN u.2.1 24 (q) 0)) := ⟨_, rfl⟩
    rw [← hT_19] at hB hZ_17 hK_18
    have hI_20 : SI env (ph_16, T_19, u.2.2) := hZ_17.1
    have hNb_21 : Nb T_19 := by rw [hT_19]; exact nb_yes hNb hok hm26 (by omega) hn4
    have hKp_22 : Kp u (ph_16, T_19, u.2.2) := hK_18
    show W p l e _ s m _ below meth c H locs _ _ _ (F0 m _ ls [])
    refine lv_goto (tgt := 99) hx hb dX4_receive_56 (by decide) ?_
    refine W.widen (k := kc (cRecv u.2.1 q) - kc u.2.1) (n := ks (cRecv u.2.1 q) - ks u.2.1) (by first | omega | (dsimp only [wC]; omega)) (by first | omega | (dsimp only [wC]; omega)) ?_
    exact w_vret hF hr hlocks hB ((by rw [hE, ← hT_19]; exact ⟨_, rfl, hZ_17, hKp_22⟩)) dX4_receive_99
  by_cases c_23 : gN u.2.1 21 (q) (0) = 2
  · refine lv_tableIn (tgt := 59) hx hb dX4_receive_4 (by rw [c_23]; decide) (by rw [c_23]; decide) (by rw [c_23]; rfl) (by decide) ?_
    have hE : cRecv u.2.1 q = cNo u.2.1 (gN u.2.1 24 q 0) := by unfold cRecv; rw [if_neg c_1, if_neg c_12, if_pos c_23]
    have hkE : kc (cRecv u.2.1 q) = kc (cNo u.2.1 (gN u.2.1 24 q 0)) ∧ ks (cRecv u.2.1 q) = ks (cNo u.2.1 (gN u.2.1 24 q 0)) := by rw [hE]; exact ⟨rfl, rfl⟩
    refine lv_aload_n hx hb dX4_receive_59 rfl (lv_at hl 0 rfl) ?_
    refine lv_aload_n hx hb dX4_receive_60 rfl (lv_at hl 1 rfl) ?_
    refine w_getN (v := .ref (sA u 8 (gN u.2.1 24 (q) 0))) (fk := 3) hF hB ha1 (cn_14 env u (q)) rfl in_X0 (by decide) tw_2_162 rfl rfl dX4_receive_61 ?_
    refine w_cv (r_V (As := [.ref (sA u 8 (gN u.2.1 24 (q) 0))]) (rest := []) hF hB (c_X4_receiveNo l env s0 X u (a0) (0) (ha0) (sA u 8 (gN u.2.1 24 (q) 0)) (gN u.2.1 24 (q) 0) (⟨(hI.k8 (hI.ms ha1.1).2.2), rfl⟩) hZ hNb hok.1) cv_X4_receiveNo tw_2_234 ⟨rfl, rfl, Nat.le_of_ble_eq_true rfl, Nat.le_of_ble_eq_true rfl⟩ (hB.recv ha0 (cn_0 env u (0)) rfl) rfl hl.1 rfl (lv_room (by decide)) dX4_receive_64 ⟨(by show _ ≤ kc (cRecv u.2.1 q) - kc u.2.1; first | omega | (dsimp only [wC]; omega)), (by show _ ≤ ks (cRecv u.2.1 q) - ks u.2.1; first | omega | (dsimp only [wC]; omega))⟩) hB (fun u_26 H locs hq_25 hB => ?_)
    obtain ⟨ph_27, rfl, hZ_28, hK_29⟩ := hq_25
    replace hB : Bd env s0 X (ph_27, (cNo u.2.1 (gN u.2.1 24 (q) 0)), u.2.2) s H locs := hB
    replace hZ_28 : SZ env (ph_27, (cNo u.2.1 (gN u.2.1 24 (q) 0)), u.2.2) := hZ_28
    replace hK_29 : Kp u (ph_27, (cNo u.2.1 (gN u.2.1 24 (q) 0)), u.2.2) := hK_29
    obtain ⟨T_30, hT_30⟩ : ∃ T, T = (cNo u.2.1 (gN u.2.1 24 (q) 0)) := ⟨_, rfl⟩
    rw [← hT_30] at hB hZ_28 hK_29
    have hI_31 : SI env (ph_27, T_30, u.2.2) := hZ_28.1
    have hNb_32 : Nb T_30 := by rw [hT_30]; exact Nb.no hNb hok.1 hm26 (by omega) hn4
    have hKp_33 : Kp u (ph_27, T_30, u.2.2) := hK_29
    show W p l e _ s m _ below meth c H locs _ _ _ (F0 m _ ls [])
    refine lv_goto (tgt := 99) hx hb dX4_receive_67 (by decide) ?_
    refine W.widen (k := kc (cRecv u.2.1 q) - kc u.2.1) (n := ks (cRecv u.2.1 q) - ks u.2.1) (by first | omega | (dsimp only [wC]; omega)) (by first | omega | (dsimp only [wC]; omega)) ?_
    exact w_vret hF hr hlocks hB ((by rw [hE, ← hT_30]; exact ⟨_, rfl, hZ_28, hKp_33⟩)) dX4_receive_99
  by_cases c_34 : gN u.2.1 21 (q) (0) = 3
  · refine lv_tableIn (tgt := 70) hx hb dX4_receive_4 (by rw [c_34]; decide) (by rw [c_34]; decide) (by rw [c_34]; rfl) (by decide) ?_
    have hE : cRecv u.2.1 q = cDrop u.2.1 q := by unfold cRecv; rw [if_neg c_1, if_neg c_12, if_neg c_23, if_pos c_34]
    have hkE : kc (cRecv u.2.1 q) = kc (cDrop u.2.1 q) ∧ ks (cRecv u.2.1 q) = ks (cDrop u.2.1 q) := by rw [hE]; exact ⟨rfl, rfl⟩
    have hkd := kc_drop u.2.1 q
    refine lv_aload_n hx hb dX4_receive_70 rfl (lv_at hl 0 rfl) ?_
    refine lv_aload_n hx hb dX4_receive_71 rfl (lv_at hl 1 rfl) ?_
    refine w_cv (r_V (As := [.ref (a1)]) (rest := []) hF hB (c_X4_receiveDrop l env s0 X u (a0) (0) (ha0) (a1) (q) (ha1) hI hNb) cv_X4_receiveDrop tw_2_239 ⟨rfl, rfl, Nat.le_of_ble_eq_true rfl, Nat.le_of_ble_eq_true rfl⟩ (hB.recv ha0 (cn_0 env u (0)) rfl) rfl hl.1 rfl (lv_room (by decide)) dX4_receive_72 ⟨(by show _ ≤ kc (cRecv u.2.1 q) - kc u.2.1; first | omega | (dsimp only [wC]; omega)), (by show _ ≤ ks (cRecv u.2.1 q) - ks u.2.1; first | omega | (dsimp only [wC]; omega))⟩) hB (fun u_37 H locs hq_36 hB => ?_)
    obtain rfl := hq_36
    replace hB : Bd env s0 X (wC u (cDrop u.2.1 (q))) s H locs := hB
    obtain ⟨T_38, hT_38⟩ : ∃ T, T = (cDrop u.2.1 (q)) := ⟨_, rfl⟩
    rw [← hT_38] at hB
    have hI_39 : SI env (wC u T_38) := by rw [hT_38]; exact SI.sameN (cDrop_N _ _) hI
    have hNb_40 : Nb T_38 := by rw [hT_38]; exact Nb.ofN (cDrop_N _ _) hNb
    refine lv_goto (tgt := 99) hx hb dX4_receive_75 (by decide) ?_
    refine W.widen (k := kc (cRecv u.2.1 q) - kc u.2.1) (n := ks (cRecv u.2.1 q) - ks u.2.1) (by first | omega | (dsimp only [wC]; omega)) (by first | omega | (dsimp only [wC]; omega)) ?_
    exact w_vret hF hr hlocks hB ((by rw [hE, ← hT_38]; exact ⟨u.1, rfl, SZ.cn hZ (fun f hf => by rw [hT_38, cDrop_N]), Kp.w u _ _⟩)) dX4_receive_99
  by_cases c_41 : gN u.2.1 21 (q) (0) = 4
  · refine lv_tableIn (tgt := 78) hx hb dX4_receive_4 (by rw [c_41]; decide) (by rw [c_41]; decide) (by rw [c_41]; rfl) (by decide) ?_
    have hE : cRecv u.2.1 q = cSend u.2.1 q := by unfold cRecv; rw [if_neg c_1, if_neg c_12, if_neg c_23, if_neg c_34, if_pos c_41]
    have hkE : kc (cRecv u.2.1 q) = kc (cSend u.2.1 q) ∧ ks (cRecv u.2.1 q) = ks (cSend u.2.1 q) := by rw [hE]; exact ⟨rfl, rfl⟩
    refine lv_aload_n hx hb dX4_receive_78 rfl (lv_at hl 0 rfl) ?_
    refine lv_aload_n hx hb dX4_receive_79 rfl (lv_at hl 1 rfl) ?_
    refine w_cv (r_V (As := [.ref (a1)]) (rest := []) hF hB (c_X4_receiveSend l env s0 X u (a0) (0) (ha0) (a1) (q) (ha1) hZ hNb hok.1) cv_X4_receiveSend tw_3_3 ⟨rfl, rfl, Nat.le_of_ble_eq_true rfl, Nat.le_of_ble_eq_true rfl⟩ (hB.recv ha0 (cn_0 env u (0)) rfl) rfl hl.1 rfl (lv_room (by decide)) dX4_receive_80 ⟨(by show _ ≤ kc (cRecv u.2.1 q) - kc u.2.1; first | omega | (dsimp only [wC]; omega)), (by show _ ≤ ks (cRecv u.2.1 q) - ks u.2.1; first | omega | (dsimp only [wC]; omega))⟩) hB (fun u_44 H locs hq_43 hB => ?_)
    obtain ⟨ph_45, rfl, hZ_46, hK_47⟩ := hq_43
    replace hB : Bd env s0 X (ph_45, (cSend u.2.1 (q)), u.2.2) s H locs := hB
    replace hZ_46 : SZ env (ph_45, (cSend u.2.1 (q)), u.2.2) := hZ_46
    replace hK_47 : Kp u (ph_45, (cSend u.2.1 (q)), u.2.2) := hK_47
    obtain ⟨T_48, hT_48⟩ : ∃ T, T = (cSend u.2.1 (q)) := ⟨_, rfl⟩
    rw [← hT_48] at hB hZ_46 hK_47
    have hI_49 : SI env (ph_45, T_48, u.2.2) := hZ_46.1
    have hNb_50 : Nb T_48 := by rw [hT_48]; exact Nb.send hNb hok.1 hm22 hm23 (by omega)
    have hKp_51 : Kp u (ph_45, T_48, u.2.2) := hK_47
    show W p l e _ s m _ below meth c H locs _ _ _ (F0 m _ ls [])
    refine lv_goto (tgt := 99) hx hb dX4_receive_83 (by decide) ?_
    refine W.widen (k := kc (cRecv u.2.1 q) - kc u.2.1) (n := ks (cRecv u.2.1 q) - ks u.2.1) (by first | omega | (dsimp only [wC]; omega)) (by first | omega | (dsimp only [wC]; omega)) ?_
    exact w_vret hF hr hlocks hB ((by rw [hE, ← hT_48]; exact ⟨_, rfl, hZ_46, hKp_51⟩)) dX4_receive_99
  refine lv_tableOut (tgt := 86) hx hb dX4_receive_4 (by rw [nI_toInt (by have := hNb 21 (q) (0); omega)]; omega) (by decide) ?_
  have hE : cRecv u.2.1 q = cAck u.2.1 q := by unfold cRecv; rw [if_neg c_1, if_neg c_12, if_neg c_23, if_neg c_34, if_neg c_41]
  have hkE : kc (cRecv u.2.1 q) = kc (cAck u.2.1 q) ∧ ks (cRecv u.2.1 q) = ks (cAck u.2.1 q) := by rw [hE]; exact ⟨rfl, rfl⟩
  have hkd := kc_ack u.2.1 q
  refine lv_aload_n hx hb dX4_receive_86 rfl (lv_at hl 1 rfl) ?_
  refine w_getN (v := .ref (sA u 8 (gN u.2.1 24 (q) 0))) (fk := 3) hF hB ha1 (cn_14 env u (q)) rfl in_X0 (by decide) tw_2_162 rfl rfl dX4_receive_87 ?_
  refine lv_dup hx hb dX4_receive_90 rfl ?_
  refine w_getN (v := .int (nI (gN u.2.1 20 (gN u.2.1 24 (q) 0) (0)))) (fk := 13) hF hB ⟨(hI.k8 (hI.ms ha1.1).2.2), rfl⟩ (cn_8 env u (gN u.2.1 24 (q) 0)) rfl in_X3 (by decide) tw_2_2 rfl rfl dX4_receive_91 ?_
  refine lv_iconst (v := nI 1) hx hb dX4_receive_94 (by decide) ?_
  refine w_iadd_n hx hb dX4_receive_95 ?_
  refine w_putN (fk := 13) (v := .int (nI ((gN u.2.1 20 (gN u.2.1 24 (q) 0) (0)) + 1))) (ty := .int) hF hB ⟨(hI.k8 (hI.ms ha1.1).2.2), rfl⟩ (wC u (uN u.2.1 20 (gN u.2.1 24 (q) 0) (0) ((gN u.2.1 20 (gN u.2.1 24 (q) 0) (0)) + 1))) (cn_8 env u (gN u.2.1 24 (q) 0)) rfl in_X3 tyX3 tyX3_ok nmX3 (by decide) tw_2_2 rfl rfl (by decide +kernel) rfl rfl (Nat.le_of_ble_eq_true rfl) rfl rfl (cu_N20 env u (gN u.2.1 24 (q) 0) ((gN u.2.1 20 (gN u.2.1 24 (q) 0) (0)) + 1)) dX4_receive_96 (fun H locs hB => ?_)
  refine W.widen (k := kc (cRecv u.2.1 q) - kc u.2.1) (n := ks (cRecv u.2.1 q) - ks u.2.1) (by first | omega | (dsimp only [wC]; omega)) (by first | omega | (dsimp only [wC]; omega)) ?_
  exact w_vret hF hr hlocks hB ((by rw [hE]; exact ⟨u.1, rfl, SZ.cn hZ (fun f hf => gN_f _ _ _ _ _ (by omega)), Kp.w u _ _⟩)) dX4_receive_99

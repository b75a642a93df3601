set_option maxHeartbeats 4000000 in
set_option maxRecDepth 100000 in
theorem c_X1_take (l : Launch) (env : Ev) (s0 : Nat) (X : va_W) (u : St) (a0 : Nat) (w : Nat) (ha0 : At u 5 (w) a0) (a1 : Nat) (t : Nat) (ha1 : At u 8 (t) a1) (hZ : SZ env u) (hNb : Nb u.2.1) (hw : w < 4) (h30 : gN u.2.1 3 (3 + w) 0 ≤ 150) (h6 : gN u.2.1 6 w (gN u.2.1 26 t 0) < 1000) : Met l yX1_take [Cond.code yX1_take cX1_take 2 none] { frames := 7, cells := 1, slots := 320, locals := 171 } (va_Pc [.ref (a0), .ref (a1)] (Pr env s0 X u)) (va_Qv (fun u' => ∃ ph, u' = (ph, cTake u.2.1 (w) (t), u.2.2) ∧ SZ env (ph, cTake u.2.1 (w) (t), u.2.2) ∧ Kp u (ph, cTake u.2.1 (w) (t), u.2.2)) (Po env s0 X) (fun q => s0 ≤ q)) 1 320 (fun q => s0 ≤ q) := by
  refine Met.ofW (cc := cX1_take) (maxL := 2) (ret := none) (by decide) rfl ?_
  intro p e s m args below meth c s₁ B hml hv
  obtain ⟨rfl, hv⟩ := hv
  have hx := B.exec
  have hb := B.bytes
  have hr := B.returns
  have hts : ∀ ww ∈ TT, ww.before #[.ref (a0), .ref (a1)] s = true := fun ww hw => hv.2.1 ww hw _
  have hown : s.vm.findClass RX1 = some m.cls := findClass_of_methodNamed B.named
  have hlocks := B.notSynchronized
  have hF : CallFix p m c cX1_take 2 s #[.ref (a0), .ref (a1)] TT RX1 := ⟨hx, hb, hml, hown, hts⟩
  have hB := Bd.entry hv
  have hl := lv_entry ([.ref (a0), .ref (a1)]) (n := 2) (Nat.le_of_ble_eq_true rfl)
  rw [lg_entry_eq]
  generalize (lg_sl ([.ref (a0), .ref (a1)]) ++ List.replicate (2 - (lg_sl ([.ref (a0), .ref (a1)])).length) Slot.unset).toArray = ls at hl ⊢
  have hl : lv_has ls 2 [(0, .ref (a0)), (1, .ref (a1))] := hl
  have hI := hZ.1
  have hs := (hI.tx ha1.1).2
  have htt := (hI.tx ha1.1).1
  have hn2 := hI.ntx
  refine lv_aload_n hx hb dX1_take_0 rfl (lv_at hl 0 rfl) ?_
  refine w_get (v := .ref (sA u 6 (w))) (fk := 1) hF hB ha0 (cn_5 env u (w)) rfl in_X1 (by decide) tw_1_65 rfl rfl dX1_take_1 ?_
  refine lv_aload_n hx hb dX1_take_4 rfl (lv_at hl 1 rfl) ?_
  refine w_getN (v := .ref (sA u 5 (gN u.2.1 26 (t) 0))) (fk := 1) hF hB ha1 (cn_8 env u (t)) rfl in_X3 (by decide) tw_1_216 rfl rfl dX1_take_5 ?_
  refine w_get (v := .int (nI (gN u.2.1 26 (t) 0))) (fk := 0) hF hB ⟨(hI.k5 (hI.tx ha1.1).2), rfl⟩ (cn_5 env u (gN u.2.1 26 (t) 0)) rfl in_X1 (by decide) tw_1_62 rfl rfl dX1_take_8 ?_
  refine lv_dup2_11 hx hb dX1_take_11 rfl rfl ?_
  refine w_iald (v := .int (nI (gN u.2.1 6 (w) (gN u.2.1 26 (t) 0)))) hF hB ⟨(hI.k6 (by omega)), rfl⟩ (cn_6 env u (w)) (hI.tx ha1.1).2 rfl (by decide) dX1_take_12 ?_
  refine lv_iconst (v := nI 1) hx hb dX1_take_13 (by decide) ?_
  refine w_iadd_n hx hb dX1_take_14 ?_
  refine w_iast (x := nI ((gN u.2.1 6 (w) (gN u.2.1 26 (t) 0)) + 1)) hF hB ⟨(hI.k6 (by omega)), rfl⟩ (wC u (uN u.2.1 6 (w) (gN u.2.1 26 (t) 0) ((gN u.2.1 6 (w) (gN u.2.1 26 (t) 0)) + 1))) (cn_6 env u (w)) (hI.tx ha1.1).2 (by decide) rfl rfl (cu_N6 env u (w) (gN u.2.1 26 (t) 0) ((gN u.2.1 6 (w) (gN u.2.1 26 (t) 0)) + 1)) dX1_take_15 (fun H locs hB => ?_)
  refine lv_aload_n hx hb dX1_take_16 rfl (lv_at hl 0 rfl) ?_
  refine w_get (v := .ref (sA u 2 (3 + (w)))) (fk := 2) hF hB ha0 (cn_5 env (wC u (uN u.2.1 6 (w) (gN u.2.1 26 (t) 0) ((gN u.2.1 6 (w) (gN u.2.1 26 (t) 0)) + 1))) (w)) rfl in_X1 (by decide) tw_1_68 rfl rfl dX1_take_17 ?_
  refine lv_aload_n hx hb dX1_take_20 rfl (lv_at hl 1 rfl) ?_
  replace hB : Bd env s0 X (wC u (cT1 u.2.1 w t)) s H locs := hB
  have hZc : SZ env (wC u (cT1 u.2.1 w t)) := SZ.cn hZ (fun f hf => cT1_N _ _ _ (by omega))
  have hc3 : gN (cT1 u.2.1 w t) 3 = gN u.2.1 3 := cT1_N _ _ _ (by decide)
  replace hB : Bd env s0 X (wC u (uN (cT1 u.2.1 w t) 30 w (gN (cT1 u.2.1 w t) 3 (3 + w) 0) t)) s H locs := Bd.gh30 hB
  obtain ⟨hP, hO, hsq⟩ := hZc.inP' w (gN (cT1 u.2.1 w t) 3 (3 + w) 0) t (i := 3 + w) (by omega)
  rw [hc3] at hsq
  obtain ⟨p3, p2, pd1, pd0, ple, pcp⟩ := hP.add (i := 3 + w) (by omega)
  rw [← hc3] at hsq
  refine w_ci (r_V (As := [.ref (a1)]) (rest := []) hF hB (c_Jx4a65c_add_9ea2d l env s0 X (wC u (uN (cT1 u.2.1 w t) 30 w (gN (cT1 u.2.1 w t) 3 (3 + w) 0) t)) (sA u 2 (3 + (w))) (3 + (w)) (⟨(hI.k2 (by have := (by omega); omega)), rfl⟩) (a1) (⟨8, t, Or.inr (Or.inl rfl), ha1⟩) p3 p2 pd1 pd0 (by rw [hsq, hc3]; omega) ple pcp hO 320 (by rw [hsq, hc3]; omega)) cv_Jx4a65c_add_9ea2d tw_2_184 ⟨rfl, rfl, Nat.le_of_ble_eq_true rfl, Nat.le_of_ble_eq_true rfl⟩ (hB.recv ⟨(hI.k2 (by have := (by omega); omega)), rfl⟩ (cn_2 env (wC u (uN (cT1 u.2.1 w t) 30 w (gN (cT1 u.2.1 w t) 3 (3 + w) 0) t)) (3 + (w))) rfl) rfl hl.1 rfl (lv_room (by decide)) dX1_take_21 ⟨Nat.le_of_ble_eq_true rfl, Nat.le_of_ble_eq_true rfl⟩) hB (fun r_1 u_3 H locs hq_2 hB => ?_)
  obtain ⟨rfl, q', rfl⟩ := hq_2
  obtain ⟨ph, he0, hZ1, hK1⟩ := hZc.into' (w := w) (t := t) (a := a1) (mm := sM (wC u (uN (cT1 u.2.1 w t) 30 w (gN (cT1 u.2.1 w t) 3 (3 + w) 0) t)) 1 (3 + w) + 1) (q' := q') hw ha1.1 ha1.2 (by rw [hc3]; omega)
  replace hB : Bd env s0 X (ph, (cIn (cT1 u.2.1 w t) w t), u.2.2) s H locs := by rw [← he0]; exact hB
  have hNb1 : Nb (cIn (cT1 u.2.1 w t) w t) := Nb.cin (c := (cT1 u.2.1 w t)) (Nb.uN hNb (by omega)) (by rw [hc3]; omega) (by omega)
  have hI1 : SI env (ph, (cIn (cT1 u.2.1 w t) w t), u.2.2) := hZ1.1
  show W p l e _ s m _ below meth c H locs _ _ _ (F0 m _ ls [.int (nI (1))])
  refine lv_pop hx hb dX1_take_24 rfl ?_
  refine lv_aload_n hx hb dX1_take_25 rfl (lv_at hl 0 rfl) ?_
  refine lv_aload_n hx hb dX1_take_26 rfl (lv_at hl 1 rfl) ?_
  refine w_cv (r_V (As := [.ref (a1)]) (rest := []) hF hB (c_X1_unlock l env s0 X (ph, (cIn (cT1 u.2.1 w t) w t), u.2.2) (a0) (w) ((hK1.at (by decide) ha0)) (a1) (t) ((hK1.at (by decide) ha1)) hI1 hNb1 hw) cv_X1_unlock tw_2_185 ⟨rfl, rfl, Nat.le_of_ble_eq_true rfl, Nat.le_of_ble_eq_true rfl⟩ (hB.recv (hK1.at (by decide) ha0) (cn_5 env (ph, (cIn (cT1 u.2.1 w t) w t), u.2.2) (w)) rfl) rfl hl.1 rfl (lv_room (by decide)) dX1_take_27 ⟨Nat.le_of_ble_eq_true rfl, Nat.le_of_ble_eq_true rfl⟩) hB (fun u_6 H locs hq_5 hB => ?_)
  obtain rfl := hq_5
  replace hB : Bd env s0 X (wC (ph, (cIn (cT1 u.2.1 w t) w t), u.2.2) (cUnlock ((cIn (cT1 u.2.1 w t) w t)) (w) (t) 12)) s H locs := hB
  have hI_7 : SI env (wC (ph, (cIn (cT1 u.2.1 w t) w t), u.2.2) (cUnlock ((cIn (cT1 u.2.1 w t) w t)) (w) (t) 12)) := SI.sameN (cUnlock_N _ _ _ _) hI1
  have hNb_8 : Nb (cUnlock ((cIn (cT1 u.2.1 w t) w t)) (w) (t) 12) := Nb.ofN (cUnlock_N _ _ _ _) hNb1
  exact w_vret hF hr hlocks hB (⟨ph, rfl, SZ.cn hZ1 (fun f _ => by unfold cTake; rw [cUnlock_N]), Kp.c hK1⟩) dX1_take_30
set_option maxHeartbeats 4000000 in
set_option maxRecDepth 100000 in
theorem c_X4_tellOthers (l : Launch) (env : Ev) (s0 : Nat) (X : va_W) (u : St) (a0 : Nat) (_xa0 : Nat) (ha0 : At u 0 (0) a0) (a1 : Nat) (t : Nat) (ha1 : At u 8 (t) a1) (x : Nat) (hZ : SZ env u) (hNb : Nb u.2.1) (hrb : Rb u.2.1 4) (hx6 : x < 6) : Met l yX4_tellOthers [Cond.code yX4_tellOthers cX4_tellOthers 4 none] { frames := 8, cells := kc (cToO u.2.1 t x (gN u.2.1 0 0 0)) - kc u.2.1, slots := ks (cToO u.2.1 t x (gN u.2.1 0 0 0)) - ks u.2.1, locals := 195 } (va_Pc [.ref (a0), .ref (a1), .int (nI (x))] (Pr env s0 X u)) (va_Qv (fun u' => ∃ ph, u' = (ph, cToO u.2.1 (t) (x) (gN u.2.1 0 0 0), u.2.2) ∧ SZ env (ph, cToO u.2.1 (t) (x) (gN u.2.1 0 0 0), u.2.2) ∧ Kp u (ph, cToO u.2.1 (t) (x) (gN u.2.1 0 0 0), u.2.2)) (Po env s0 X) (fun q => s0 ≤ q)) (kc (cToO u.2.1 t x (gN u.2.1 0 0 0)) - kc u.2.1) (ks (cToO u.2.1 t x (gN u.2.1 0 0 0)) - ks u.2.1) (fun q => s0 ≤ q) := by
  refine Met.ofW (cc := cX4_tellOthers) (maxL := 4) (ret := none) (by decide) rfl ?_
  intro p e s m args below meth c s₁ B hml hv
  obtain ⟨rfl, hv⟩ := hv
  have hx := B.exec
  have hb := B.bytes
  have hr := B.returns
  have hts : ∀ ww ∈ TT, ww.before #[.ref (a0), .ref (a1), .int (nI (x))] s = true := fun ww hw => hv.2.1 ww hw _
  have hown : s.vm.findClass RX4 = some m.cls := findClass_of_methodNamed B.named
  have hlocks := B.notSynchronized
  have hF : CallFix p m c cX4_tellOthers 4 s #[.ref (a0), .ref (a1), .int (nI (x))] TT RX4 := ⟨hx, hb, hml, hown, hts⟩
  have hB := Bd.entry hv
  have hl := lv_entry ([.ref (a0), .ref (a1), .int (nI (x))]) (n := 4) (Nat.le_of_ble_eq_true rfl)
  rw [lg_entry_eq]
  generalize (lg_sl ([.ref (a0), .ref (a1), .int (nI (x))]) ++ List.replicate (4 - (lg_sl ([.ref (a0), .ref (a1), .int (nI (x))])).length) Slot.unset).toArray = ls at hl ⊢
  have hl : lv_has ls 4 [(0, .ref (a0)), (1, .ref (a1)), (2, .int (nI (x)))] := hl
  have hI := hZ.1
  have hn4 := hI.nst
  have hs := (hI.tx ha1.1).2
  have htt := (hI.tx ha1.1).1
  have hn2 := hI.ntx
  refine lv_iconst (v := nI 0) hx hb dX4_tellOthers_0 (by decide) ?_
  refine lv_istore_n (lv' := [(3, .int (nI (0))), (0, .ref (a0)), (1, .ref (a1)), (2, .int (nI (x)))]) hx hb dX4_tellOthers_1 rfl hl (by decide) rfl (fun ls hl => ?_)
  refine wloopH (σ := Heap × List Loc × Array Slot × Ph × Nat × Nat) (G := fun xx => W p l e _ s m _ below meth c xx.1 xx.2.1 xx.2.2.2.2.1 xx.2.2.2.2.2 _ (F0 m 2 xx.2.2.1 [])) (P := fun i_1 xx => (Bd env s0 X (xx.2.2.2.1, (cToO u.2.1 t x i_1), u.2.2) s xx.1 xx.2.1 ∧ SZ env (xx.2.2.2.1, (cToO u.2.1 t x i_1), u.2.2) ∧ Kp u (xx.2.2.2.1, (cToO u.2.1 t x i_1), u.2.2) ∧ xx.2.2.2.2.1 = kc (cToO u.2.1 t x i_1) - kc u.2.1 ∧ xx.2.2.2.2.2 = ks (cToO u.2.1 t x i_1) - ks u.2.1) ∧ lv_has xx.2.2.1 4 [(0, .ref (a0)), (1, .ref (a1)), (2, .int (nI (x))), (3, .int (nI (i_1)))]) (N := gN u.2.1 0 0 0) ?_ 0 (_, _, ls, u.1, 0, 0) (Nat.zero_le _) ⟨⟨hB, hZ, Kp.rf u, (Nat.sub_self _).symm, (Nat.sub_self _).symm⟩, lv_sub hl [1, 2, 3, 0] rfl⟩
  rintro i_1 ⟨H, locs, ls, ph, lc, lsl⟩ hi_2 ⟨⟨hB, hZ0, hK0, hlc, hls⟩, hl⟩ ih2
  replace hB : Bd env s0 X (ph, (cToO u.2.1 t x i_1), u.2.2) s H locs := hB
  replace hZ0 : SZ env (ph, (cToO u.2.1 t x i_1), u.2.2) := hZ0
  replace hK0 : Kp u (ph, (cToO u.2.1 t x i_1), u.2.2) := hK0
  replace hlc : lc = kc (cToO u.2.1 t x i_1) - kc u.2.1 := hlc
  replace hls : lsl = ks (cToO u.2.1 t x i_1) - ks u.2.1 := hls
  subst hlc hls
  replace hl : lv_has ls 4 [(0, .ref (a0)), (1, .ref (a1)), (2, .int (nI (x))), (3, .int (nI (i_1)))] := hl
  show W p l e _ s m _ below meth c H locs (kc (cToO u.2.1 t x i_1) - kc u.2.1) (ks (cToO u.2.1 t x i_1) - ks u.2.1) _ (F0 m 2 ls [])
  have hk0 := cToO_kn u.2.1 t x (Nat.zero_le i_1)
  replace hk0 : kc u.2.1 ≤ kc (cToO u.2.1 t x i_1) ∧ ks u.2.1 ≤ ks (cToO u.2.1 t x i_1) := hk0
  have hk1 := cToO_k u.2.1 t x i_1
  have hk2 := cToO_kn u.2.1 t x (show i_1 ≤ gN u.2.1 0 0 0 by omega)
  have hrb1 := cToO_R u.2.1 t x hrb i_1 (by omega)
  have h26 : gN (cToO u.2.1 t x i_1) 26 t 0 = gN u.2.1 26 t 0 := by rw [cToO_N _ _ _ (by decide)]
  have h00 : gN (cToO u.2.1 t x i_1) 0 0 0 = gN u.2.1 0 0 0 := by rw [cToO_N _ _ _ (by decide)]
  have hI_3 : SI env (ph, (cToO u.2.1 t x i_1), u.2.2) := hZ0.1
  have hNb_4 : Nb (cToO u.2.1 t x i_1) := cToO_Nb u.2.1 t x hNb hrb hx6 (by omega) hs i_1 (by omega)
  refine lv_iload_n hx hb dX4_tellOthers_2 rfl (lv_at hl 3 rfl) ?_
  refine lv_aload_n hx hb dX4_tellOthers_3 rfl (lv_at hl 0 rfl) ?_
  refine w_get (v := .int (nI (gN (cToO u.2.1 t x i_1) 0 (0) (0)))) (fk := 1) hF hB (hK0.at (by decide) ha0) (cn_0 env (ph, (cToO u.2.1 t x i_1), u.2.2) (0)) rfl in_X4 (by decide) tw_1_82 rfl rfl dX4_tellOthers_4 ?_
  refine w_icge_n (tgt := 45) (by omega) (by have := hNb_4 0 (0) (0); omega) hx hb dX4_tellOthers_7 (by decide) (fun c_5 => ?_) (fun c_5 => ?_)
  · rw [h00] at c_5
    refine W.widen (k := kc (cToO u.2.1 t x (gN u.2.1 0 0 0)) - kc u.2.1) (n := ks (cToO u.2.1 t x (gN u.2.1 0 0 0)) - ks u.2.1) (by omega) (by omega) ?_
    exact w_vret hF hr hlocks hB ((by rw [show gN u.2.1 0 0 0 = i_1 by omega]; exact ⟨ph, rfl, hZ0, hK0⟩)) dX4_tellOthers_45
  · rw [h00] at c_5
    refine lv_aload_n hx hb dX4_tellOthers_10 rfl (lv_at hl 0 rfl) ?_
    refine w_get (v := .ref (sA (ph, (cToO u.2.1 t x i_1), u.2.2) 1 (0))) (fk := 0) hF hB (hK0.at (by decide) ha0) (cn_0 env (ph, (cToO u.2.1 t x i_1), u.2.2) (0)) rfl in_X4 (by decide) tw_1_81 rfl rfl dX4_tellOthers_11 ?_
    refine lv_iload_n hx hb dX4_tellOthers_14 rfl (lv_at hl 3 rfl) ?_
    refine w_aldS hF hB ⟨hI_3.k1, rfl⟩ (cn_1 env (ph, (cToO u.2.1 t x i_1), u.2.2) (0)) (by omega) rfl (by decide) dX4_tellOthers_15 ?_
    refine lv_aload_n hx hb dX4_tellOthers_16 rfl (lv_at hl 1 rfl) ?_
    refine w_getN (v := .ref (sA (ph, (cToO u.2.1 t x i_1), u.2.2) 5 (gN (cToO u.2.1 t x i_1) 26 (t) 0))) (fk := 1) hF hB (hK0.at (by decide) ha1) (cn_8 env (ph, (cToO u.2.1 t x i_1), u.2.2) (t)) rfl in_X3 (by decide) tw_1_217 rfl rfl dX4_tellOthers_17 ?_
    refine w_acmp_eq (tgt := 39) hx hb dX4_tellOthers_20 (by decide) (fun c_6 => ?_) (fun c_6 => ?_)
    · rw [hB.eqi ⟨(hI_3.k5 (by omega)), rfl⟩ ⟨(hI_3.k5 (hI_3.tx (hK0 _ _ (by decide) ha1.1).1).2), rfl⟩] at c_6
      refine lv_iinc (v := nI (i_1 + 1)) (lv' := [(3, .int (nI (i_1 + 1))), (0, .ref (a0)), (1, .ref (a1)), (2, .int (nI (x)))]) hx hb dX4_tellOthers_39 hl (k := 3) rfl (nI_add _ _) (by decide) rfl (fun ls hl => ?_)
      refine lv_goto (tgt := 2) hx hb dX4_tellOthers_42 (by decide) ?_
      have em_7 : (cToO u.2.1 t x ((i_1 + 1))) = (cToO u.2.1 t x i_1) := by rw [cToO_s, if_pos c_6]
      exact ih2 (H, locs, ls, ph, _, _) (by omega) ⟨⟨(by rw [em_7]; exact hB), (by rw [em_7]; exact hZ0), (by rw [em_7]; exact hK0), (by rw [em_7] <;> first | omega | (dsimp only [wC]; omega)), (by rw [em_7] <;> first | omega | (dsimp only [wC]; omega))⟩, by exact lv_sub hl [1, 2, 3, 0] rfl⟩
    · rw [hB.eqi ⟨(hI_3.k5 (by omega)), rfl⟩ ⟨(hI_3.k5 (hI_3.tx (hK0 _ _ (by decide) ha1.1).1).2), rfl⟩] at c_6
      refine lv_aload_n hx hb dX4_tellOthers_23 rfl (lv_at hl 0 rfl) ?_
      refine lv_iload_n hx hb dX4_tellOthers_24 rfl (lv_at hl 2 rfl) ?_
      refine lv_aload_n hx hb dX4_tellOthers_25 rfl (lv_at hl 1 rfl) ?_
      refine w_getN (v := .ref (sA (ph, (cToO u.2.1 t x i_1), u.2.2) 5 (gN (cToO u.2.1 t x i_1) 26 (t) 0))) (fk := 1) hF hB (hK0.at (by decide) ha1) (cn_8 env (ph, (cToO u.2.1 t x i_1), u.2.2) (t)) rfl in_X3 (by decide) tw_1_217 rfl rfl dX4_tellOthers_26 ?_
      refine lv_aload_n hx hb dX4_tellOthers_29 rfl (lv_at hl 0 rfl) ?_
      refine w_get (v := .ref (sA (ph, (cToO u.2.1 t x i_1), u.2.2) 1 (0))) (fk := 0) hF hB (hK0.at (by decide) ha0) (cn_0 env (ph, (cToO u.2.1 t x i_1), u.2.2) (0)) rfl in_X4 (by decide) tw_1_81 rfl rfl dX4_tellOthers_30 ?_
      refine lv_iload_n hx hb dX4_tellOthers_33 rfl (lv_at hl 3 rfl) ?_
      refine w_aldS hF hB ⟨hI_3.k1, rfl⟩ (cn_1 env (ph, (cToO u.2.1 t x i_1), u.2.2) (0)) (by omega) rfl (by decide) dX4_tellOthers_34 ?_
      refine lv_aload_n hx hb dX4_tellOthers_35 rfl (lv_at hl 1 rfl) ?_
      have hk3 : cToO u.2.1 t x (i_1 + 1) = cPost (cToO u.2.1 t x i_1) x (gN (cToO u.2.1 t x i_1) 26 t 0) i_1 t := by rw [cToO_s, if_neg c_6]
      have hk4 := kc_post (cToO u.2.1 t x i_1) x (gN (cToO u.2.1 t x i_1) 26 t 0) i_1 t
      have hk6 := hk4
      rw [← hk3] at hk4
      have hk5 := cToO_kn u.2.1 t x (show i_1 + 1 ≤ gN u.2.1 0 0 0 by omega)
      refine w_cv (r_V (As := [.int (nI (x)), .ref (sA (ph, (cToO u.2.1 t x i_1), u.2.2) 5 (gN (cToO u.2.1 t x i_1) 26 (t) 0)), .ref (sA (ph, (cToO u.2.1 t x i_1), u.2.2) 5 (i_1)), .ref (a1)]) (rest := []) hF hB (c_X4_post l env s0 X (ph, (cToO u.2.1 t x i_1), u.2.2) (a0) (0) ((hK0.at (by decide) ha0)) (x) (sA (ph, (cToO u.2.1 t x i_1), u.2.2) 5 (gN (cToO u.2.1 t x i_1) 26 (t) 0)) (gN (cToO u.2.1 t x i_1) 26 (t) 0) (⟨(hI_3.k5 (hI_3.tx (hK0 _ _ (by decide) ha1.1).1).2), rfl⟩) (sA (ph, (cToO u.2.1 t x i_1), u.2.2) 5 (i_1)) (i_1) (⟨(hI_3.k5 (by omega)), rfl⟩) (a1) (t) ((hK0.at (by decide) ha1)) hZ0 hNb_4 (hrb1.le (by omega)) (by omega) (by omega)) cv_X4_post tw_2_145 ⟨rfl, rfl, Nat.le_of_ble_eq_true rfl, Nat.le_of_ble_eq_true rfl⟩ (hB.recv (hK0.at (by decide) ha0) (cn_0 env (ph, (cToO u.2.1 t x i_1), u.2.2) (0)) rfl) rfl hl.1 rfl (lv_room (by decide)) dX4_tellOthers_36 ⟨(by show _ ≤ kc (cToO u.2.1 t x (gN u.2.1 0 0 0)) - kc u.2.1; first | omega | (dsimp only [wC]; omega)), (by show _ ≤ ks (cToO u.2.1 t x (gN u.2.1 0 0 0)) - ks u.2.1; first | omega | (dsimp only [wC]; omega))⟩) hB (fun u_10 H locs hq_9 hB => ?_)
      obtain ⟨ph_11, rfl, hZ_12, hK_13⟩ := hq_9
      replace hB : Bd env s0 X (ph_11, (cPost ((cToO u.2.1 t x i_1)) (x) (gN (cToO u.2.1 t x i_1) 26 (t) 0) (i_1) (t)), u.2.2) s H locs := hB
      replace hZ_12 : SZ env (ph_11, (cPost ((cToO u.2.1 t x i_1)) (x) (gN (cToO u.2.1 t x i_1) 26 (t) 0) (i_1) (t)), u.2.2) := hZ_12
      replace hK_13 : Kp (ph, (cToO u.2.1 t x i_1), u.2.2) (ph_11, (cPost ((cToO u.2.1 t x i_1)) (x) (gN (cToO u.2.1 t x i_1) 26 (t) 0) (i_1) (t)), u.2.2) := hK_13
      have hI_14 : SI env (ph_11, (cPost ((cToO u.2.1 t x i_1)) (x) (gN (cToO u.2.1 t x i_1) 26 (t) 0) (i_1) (t)), u.2.2) := hZ_12.1
      have hNb_15 : Nb (cPost ((cToO u.2.1 t x i_1)) (x) (gN (cToO u.2.1 t x i_1) 26 (t) 0) (i_1) (t)) := Nb.post hNb_4 (hrb1.le (by omega)) (by omega) (by omega) (by omega) (by omega)
      have hKp_16 : Kp u (ph_11, (cPost ((cToO u.2.1 t x i_1)) (x) (gN (cToO u.2.1 t x i_1) 26 (t) 0) (i_1) (t)), u.2.2) := Kp.tr hK0 hK_13
      show W p l e _ s m _ below meth c H locs _ _ _ (F0 m _ ls [])
      refine lv_iinc (v := nI (i_1 + 1)) (lv' := [(3, .int (nI (i_1 + 1))), (0, .ref (a0)), (1, .ref (a1)), (2, .int (nI (x)))]) hx hb dX4_tellOthers_39 hl (k := 3) rfl (nI_add _ _) (by decide) rfl (fun ls hl => ?_)
      refine lv_goto (tgt := 2) hx hb dX4_tellOthers_42 (by decide) ?_
      have em_17 : (cToO u.2.1 t x ((i_1 + 1))) = (cPost ((cToO u.2.1 t x i_1)) (x) (gN (cToO u.2.1 t x i_1) 26 (t) 0) (i_1) (t)) := by rw [cToO_s, if_neg c_6]
      exact ih2 (H, locs, ls, ph_11, _, _) (by omega) ⟨⟨(by rw [em_17]; exact hB), (by rw [em_17]; exact hZ_12), (by rw [em_17]; exact hKp_16), (by rw [em_17] <;> first | omega | (dsimp only [wC]; omega)), (by rw [em_17] <;> first | omega | (dsimp only [wC]; omega))⟩, by exact lv_sub hl [1, 2, 3, 0] rfl⟩
set_option maxHeartbeats 4000000 in
set_option maxRecDepth 100000 in
theorem c_X4_tellHomes (l : Launch) (env : Ev) (s0 : Nat) (X : va_W) (u : St) (a0 : Nat) (_xa0 : Nat) (ha0 : At u 0 (0) a0) (a1 : Nat) (t : Nat) (ha1 : At u 8 (t) a1) (x : Nat) (hZ : SZ env u) (hNb : Nb u.2.1) (hrb : Rb u.2.1 4) (hx6 : x < 6) : Met l yX4_tellHomes [Cond.code yX4_tellHomes cX4_tellHomes 5 (some .int)] { frames := 8, cells := kc (cToH u.2.1 t x (gN u.2.1 0 0 0)) - kc u.2.1, slots := ks (cToH u.2.1 t x (gN u.2.1 0 0 0)) - ks u.2.1, locals := 195 } (va_Pc [.ref (a0), .ref (a1), .int (nI (x))] (Pr env s0 X u)) (va_Qi (fun r u' => ∃ ph, u' = (ph, cToH u.2.1 (t) (x) (gN u.2.1 0 0 0), u.2.2) ∧ SZ env (ph, cToH u.2.1 (t) (x) (gN u.2.1 0 0 0), u.2.2) ∧ Kp u (ph, cToH u.2.1 (t) (x) (gN u.2.1 0 0 0), u.2.2) ∧ r = nI (cToHn u.2.1 t x (gN u.2.1 0 0 0))) (Po env s0 X) (fun q => s0 ≤ q)) (kc (cToH u.2.1 t x (gN u.2.1 0 0 0)) - kc u.2.1) (ks (cToH u.2.1 t x (gN u.2.1 0 0 0)) - ks u.2.1) (fun q => s0 ≤ q) := by
  refine Met.ofW (cc := cX4_tellHomes) (maxL := 5) (ret := (some .int)) (by decide) rfl ?_
  intro p e s m args below meth c s₁ B hml hv
  obtain ⟨rfl, hv⟩ := hv
  have hx := B.exec
  have hb := B.bytes
  have hr := B.returns
  have hts : ∀ ww ∈ TT, ww.before #[.ref (a0), .ref (a1), .int (nI (x))] s = true := fun ww hw => hv.2.1 ww hw _
  have hown : s.vm.findClass RX4 = some m.cls := findClass_of_methodNamed B.named
  have hlocks := B.notSynchronized
  have hF : CallFix p m c cX4_tellHomes 5 s #[.ref (a0), .ref (a1), .int (nI (x))] TT RX4 := ⟨hx, hb, hml, hown, hts⟩
  have hB := Bd.entry hv
  have hl := lv_entry ([.ref (a0), .ref (a1), .int (nI (x))]) (n := 5) (Nat.le_of_ble_eq_true rfl)
  rw [lg_entry_eq]
  generalize (lg_sl ([.ref (a0), .ref (a1), .int (nI (x))]) ++ List.replicate (5 - (lg_sl ([.ref (a0), .ref (a1), .int (nI (x))])).length) Slot.unset).toArray = ls at hl ⊢
  have hl : lv_has ls 5 [(0, .ref (a0)), (1, .ref (a1)), (2, .int (nI (x)))] := hl
  have hI := hZ.1
  have hn4 := hI.nst
  have hs := (hI.tx ha1.1).2
  have htt := (hI.tx ha1.1).1
  have hn2 := hI.ntx
  refine lv_iconst (v := nI 0) hx hb dX4_tellHomes_0 (by decide) ?_
  refine lv_istore_n (lv' := [(3, .int (nI (0))), (0, .ref (a0)), (1, .ref (a1)), (2, .int (nI (x)))]) hx hb dX4_tellHomes_1 rfl hl (by decide) rfl (fun ls hl => ?_)
  refine lv_iconst (v := nI 0) hx hb dX4_tellHomes_2 (by decide) ?_
  refine lv_istore (lv' := [(4, .int (nI (0))), (3, .int (nI (0))), (0, .ref (a0)), (1, .ref (a1)), (2, .int (nI (x)))]) hx hb dX4_tellHomes_3 hl (by decide) rfl (fun ls hl => ?_)
  refine wloopH (σ := Heap × List Loc × Array Slot × Ph × Nat × Nat) (G := fun xx => W p l e _ s m _ below meth c xx.1 xx.2.1 xx.2.2.2.2.1 xx.2.2.2.2.2 _ (F0 m 5 xx.2.2.1 [])) (P := fun i_1 xx => (Bd env s0 X (xx.2.2.2.1, (cToH u.2.1 t x i_1), u.2.2) s xx.1 xx.2.1 ∧ SZ env (xx.2.2.2.1, (cToH u.2.1 t x i_1), u.2.2) ∧ Kp u (xx.2.2.2.1, (cToH u.2.1 t x i_1), u.2.2) ∧ xx.2.2.2.2.1 = kc (cToH u.2.1 t x i_1) - kc u.2.1 ∧ xx.2.2.2.2.2 = ks (cToH u.2.1 t x i_1) - ks u.2.1) ∧ lv_has xx.2.2.1 5 [(0, .ref (a0)), (1, .ref (a1)), (2, .int (nI (x))), (3, .int (nI (cToHn u.2.1 t x (i_1)))), (4, .int (nI (i_1)))]) (N := gN u.2.1 0 0 0) ?_ 0 (_, _, ls, u.1, 0, 0) (Nat.zero_le _) ⟨⟨hB, hZ, Kp.rf u, (Nat.sub_self _).symm, (Nat.sub_self _).symm⟩, lv_sub hl [2, 3, 4, 1, 0] rfl⟩
  rintro i_1 ⟨H, locs, ls, ph, lc, lsl⟩ hi_2 ⟨⟨hB, hZ0, hK0, hlc, hls⟩, hl⟩ ih5
  replace hB : Bd env s0 X (ph, (cToH u.2.1 t x i_1), u.2.2) s H locs := hB
  replace hZ0 : SZ env (ph, (cToH u.2.1 t x i_1), u.2.2) := hZ0
  replace hK0 : Kp u (ph, (cToH u.2.1 t x i_1), u.2.2) := hK0
  replace hlc : lc = kc (cToH u.2.1 t x i_1) - kc u.2.1 := hlc
  replace hls : lsl = ks (cToH u.2.1 t x i_1) - ks u.2.1 := hls
  subst hlc hls
  replace hl : lv_has ls 5 [(0, .ref (a0)), (1, .ref (a1)), (2, .int (nI (x))), (3, .int (nI (cToHn u.2.1 t x (i_1)))), (4, .int (nI (i_1)))] := hl
  show W p l e _ s m _ below meth c H locs (kc (cToH u.2.1 t x i_1) - kc u.2.1) (ks (cToH u.2.1 t x i_1) - ks u.2.1) _ (F0 m 5 ls [])
  have hk0 := cToH_kn u.2.1 t x (Nat.zero_le i_1)
  replace hk0 : kc u.2.1 ≤ kc (cToH u.2.1 t x i_1) ∧ ks u.2.1 ≤ ks (cToH u.2.1 t x i_1) := hk0
  have hk1 := cToH_k u.2.1 t x i_1
  have hk2 := cToH_kn u.2.1 t x (show i_1 ≤ gN u.2.1 0 0 0 by omega)
  have hrb1 := cToH_R u.2.1 t x hrb i_1 (by omega)
  have h26 : gN (cToH u.2.1 t x i_1) 26 t 0 = gN u.2.1 26 t 0 := by rw [cToH_N _ _ _ (by decide)]
  have h00 : gN (cToH u.2.1 t x i_1) 0 0 0 = gN u.2.1 0 0 0 := by rw [cToH_N _ _ _ (by decide)]
  have hI_3 : SI env (ph, (cToH u.2.1 t x i_1), u.2.2) := hZ0.1
  have hNb_4 : Nb (cToH u.2.1 t x i_1) := cToH_Nb u.2.1 t x hNb hrb hx6 (by omega) hs i_1 (by omega)
  refine lv_iload hx hb dX4_tellHomes_5 (lv_at hl 4 rfl) ?_
  refine lv_aload_n hx hb dX4_tellHomes_7 rfl (lv_at hl 0 rfl) ?_
  refine w_get (v := .int (nI (gN (cToH u.2.1 t x i_1) 0 (0) (0)))) (fk := 1) hF hB (hK0.at (by decide) ha0) (cn_0 env (ph, (cToH u.2.1 t x i_1), u.2.2) (0)) rfl in_X4 (by decide) tw_1_82 rfl rfl dX4_tellHomes_8 ?_
  refine w_icge_n (tgt := 69) (by omega) (by have := hNb_4 0 (0) (0); omega) hx hb dX4_tellHomes_11 (by decide) (fun c_5 => ?_) (fun c_5 => ?_)
  · rw [h00] at c_5
    refine lv_iload_n hx hb dX4_tellHomes_69 rfl (lv_at hl 3 rfl) ?_
    refine W.widen (k := kc (cToH u.2.1 t x (gN u.2.1 0 0 0)) - kc u.2.1) (n := ks (cToH u.2.1 t x (gN u.2.1 0 0 0)) - ks u.2.1) (by omega) (by omega) ?_
    exact w_iret (v := nI (cToHn u.2.1 t x (i_1))) hF hr hlocks hB ((by rw [show gN u.2.1 0 0 0 = i_1 by omega]; exact ⟨ph, rfl, hZ0, hK0, rfl⟩)) dX4_tellHomes_70
  · rw [h00] at c_5
    refine lv_aload_n hx hb dX4_tellHomes_14 rfl (lv_at hl 0 rfl) ?_
    refine w_get (v := .ref (sA (ph, (cToH u.2.1 t x i_1), u.2.2) 1 (0))) (fk := 0) hF hB (hK0.at (by decide) ha0) (cn_0 env (ph, (cToH u.2.1 t x i_1), u.2.2) (0)) rfl in_X4 (by decide) tw_1_81 rfl rfl dX4_tellHomes_15 ?_
    refine lv_iload hx hb dX4_tellHomes_18 (lv_at hl 4 rfl) ?_
    refine w_aldS hF hB ⟨hI_3.k1, rfl⟩ (cn_1 env (ph, (cToH u.2.1 t x i_1), u.2.2) (0)) (by omega) rfl (by decide) dX4_tellHomes_20 ?_
    refine lv_aload_n hx hb dX4_tellHomes_21 rfl (lv_at hl 1 rfl) ?_
    refine w_getN (v := .ref (sA (ph, (cToH u.2.1 t x i_1), u.2.2) 5 (gN (cToH u.2.1 t x i_1) 26 (t) 0))) (fk := 1) hF hB (hK0.at (by decide) ha1) (cn_8 env (ph, (cToH u.2.1 t x i_1), u.2.2) (t)) rfl in_X3 (by decide) tw_1_217 rfl rfl dX4_tellHomes_22 ?_
    refine w_acmp_eq (tgt := 63) hx hb dX4_tellHomes_25 (by decide) (fun c_6 => ?_) (fun c_6 => ?_)
    · rw [hB.eqi ⟨(hI_3.k5 (by omega)), rfl⟩ ⟨(hI_3.k5 (hI_3.tx (hK0 _ _ (by decide) ha1.1).1).2), rfl⟩] at c_6
      refine lv_iinc (v := nI (i_1 + 1)) (lv' := [(4, .int (nI (i_1 + 1))), (0, .ref (a0)), (1, .ref (a1)), (2, .int (nI (x))), (3, .int (nI (cToHn u.2.1 t x (i_1))))]) hx hb dX4_tellHomes_63 hl (k := 4) rfl (nI_add _ _) (by decide) rfl (fun ls hl => ?_)
      refine lv_goto (tgt := 5) hx hb dX4_tellHomes_66 (by decide) ?_
      have ea_7 : cToHn u.2.1 t x (i_1 + 1) = cToHn u.2.1 t x (i_1) := by rw [cToHn_s, if_neg (cHeQ_n c_6)]; all_goals rfl
      have em_8 : (cToH u.2.1 t x ((i_1 + 1))) = (cToH u.2.1 t x i_1) := by rw [cToH_s, if_neg (cHeQ_n c_6)]
      exact ih5 (H, locs, ls, ph, _, _) (by omega) ⟨⟨(by rw [em_8]; exact hB), (by rw [em_8]; exact hZ0), (by rw [em_8]; exact hK0), (by rw [em_8] <;> first | omega | (dsimp only [wC]; omega)), (by rw [em_8] <;> first | omega | (dsimp only [wC]; omega))⟩, by show lv_has ls 5 [(0, .ref (a0)), (1, .ref (a1)), (2, .int (nI (x))), (3, .int (nI (cToHn u.2.1 t x (i_1 + 1)))), (4, .int (nI (i_1 + 1)))]; rw [ea_7]; exact lv_sub hl [1, 2, 3, 4, 0] rfl⟩
    · rw [hB.eqi ⟨(hI_3.k5 (by omega)), rfl⟩ ⟨(hI_3.k5 (hI_3.tx (hK0 _ _ (by decide) ha1.1).1).2), rfl⟩] at c_6
      refine lv_aload_n hx hb dX4_tellHomes_28 rfl (lv_at hl 0 rfl) ?_
      refine lv_aload_n hx hb dX4_tellHomes_29 rfl (lv_at hl 1 rfl) ?_
      refine lv_aload_n hx hb dX4_tellHomes_30 rfl (lv_at hl 0 rfl) ?_
      refine w_get (v := .ref (sA (ph, (cToH u.2.1 t x i_1), u.2.2) 1 (0))) (fk := 0) hF hB (hK0.at (by decide) ha0) (cn_0 env (ph, (cToH u.2.1 t x i_1), u.2.2) (0)) rfl in_X4 (by decide) tw_1_81 rfl rfl dX4_tellHomes_31 ?_
      refine lv_iload hx hb dX4_tellHomes_34 (lv_at hl 4 rfl) ?_
      refine w_aldS hF hB ⟨hI_3.k1, rfl⟩ (cn_1 env (ph, (cToH u.2.1 t x i_1), u.2.2) (0)) (by omega) rfl (by decide) dX4_tellHomes_36 ?_
      refine w_ci (r_V (As := [.ref (a1), .ref (sA (ph, (cToH u.2.1 t x i_1), u.2.2) 5 (i_1))]) (rest := []) hF hB (c_X4_hasHome l env s0 X (ph, (cToH u.2.1 t x i_1), u.2.2) (a0) (0) ((hK0.at (by decide) ha0)) (a1) (t) ((hK0.at (by decide) ha1)) (sA (ph, (cToH u.2.1 t x i_1), u.2.2) 5 (i_1)) (i_1) (⟨(hI_3.k5 (by omega)), rfl⟩) hI_3 hNb_4) cv_X4_hasHome tw_2_133 ⟨rfl, rfl, Nat.le_of_ble_eq_true rfl, Nat.le_of_ble_eq_true rfl⟩ (hB.recv (hK0.at (by decide) ha0) (cn_0 env (ph, (cToH u.2.1 t x i_1), u.2.2) (0)) rfl) rfl hl.1 rfl (lv_room (by decide)) dX4_tellHomes_37 ⟨(by show _ ≤ kc (cToH u.2.1 t x (gN u.2.1 0 0 0)) - kc u.2.1; first | omega | (dsimp only [wC]; omega)), (by show _ ≤ ks (cToH u.2.1 t x (gN u.2.1 0 0 0)) - ks u.2.1; first | omega | (dsimp only [wC]; omega))⟩) hB (fun r_9 u_11 H locs hq_10 hB => ?_)
      obtain ⟨rfl, rfl⟩ := hq_10
      refine w_ifeq_b (tgt := 63) hx hb dX4_tellHomes_40 (by decide) (fun c_12 => ?_) (fun c_12 => ?_)
      · refine lv_iinc (v := nI (i_1 + 1)) (lv' := [(4, .int (nI (i_1 + 1))), (0, .ref (a0)), (1, .ref (a1)), (2, .int (nI (x))), (3, .int (nI (cToHn u.2.1 t x (i_1))))]) hx hb dX4_tellHomes_63 hl (k := 4) rfl (nI_add _ _) (by decide) rfl (fun ls hl => ?_)
        refine lv_goto (tgt := 5) hx hb dX4_tellHomes_66 (by decide) ?_
        have ea_13 : cToHn u.2.1 t x (i_1 + 1) = cToHn u.2.1 t x (i_1) := by rw [cToHn_s, if_neg (cHeQ_f c_12)]; all_goals rfl
        have em_14 : (cToH u.2.1 t x ((i_1 + 1))) = (cToH u.2.1 t x i_1) := by rw [cToH_s, if_neg (cHeQ_f c_12)]
        exact ih5 (H, locs, ls, ph, _, _) (by omega) ⟨⟨(by rw [em_14]; exact hB), (by rw [em_14]; exact hZ0), (by rw [em_14]; exact hK0), (by rw [em_14] <;> first | omega | (dsimp only [wC]; omega)), (by rw [em_14] <;> first | omega | (dsimp only [wC]; omega))⟩, by show lv_has ls 5 [(0, .ref (a0)), (1, .ref (a1)), (2, .int (nI (x))), (3, .int (nI (cToHn u.2.1 t x (i_1 + 1)))), (4, .int (nI (i_1 + 1)))]; rw [ea_13]; exact lv_sub hl [1, 2, 3, 4, 0] rfl⟩
      · refine lv_aload_n hx hb dX4_tellHomes_43 rfl (lv_at hl 0 rfl) ?_
        refine lv_iload_n hx hb dX4_tellHomes_44 rfl (lv_at hl 2 rfl) ?_
        refine lv_aload_n hx hb dX4_tellHomes_45 rfl (lv_at hl 1 rfl) ?_
        refine w_getN (v := .ref (sA (ph, (cToH u.2.1 t x i_1), u.2.2) 5 (gN (cToH u.2.1 t x i_1) 26 (t) 0))) (fk := 1) hF hB (hK0.at (by decide) ha1) (cn_8 env (ph, (cToH u.2.1 t x i_1), u.2.2) (t)) rfl in_X3 (by decide) tw_1_217 rfl rfl dX4_tellHomes_46 ?_
        refine lv_aload_n hx hb dX4_tellHomes_49 rfl (lv_at hl 0 rfl) ?_
        refine w_get (v := .ref (sA (ph, (cToH u.2.1 t x i_1), u.2.2) 1 (0))) (fk := 0) hF hB (hK0.at (by decide) ha0) (cn_0 env (ph, (cToH u.2.1 t x i_1), u.2.2) (0)) rfl in_X4 (by decide) tw_1_81 rfl rfl dX4_tellHomes_50 ?_
        refine lv_iload hx hb dX4_tellHomes_53 (lv_at hl 4 rfl) ?_
        refine w_aldS hF hB ⟨hI_3.k1, rfl⟩ (cn_1 env (ph, (cToH u.2.1 t x i_1), u.2.2) (0)) (by omega) rfl (by decide) dX4_tellHomes_55 ?_
        refine lv_aload_n hx hb dX4_tellHomes_56 rfl (lv_at hl 1 rfl) ?_
        have hk3 : cToH u.2.1 t x (i_1 + 1) = cPost (cToH u.2.1 t x i_1) x (gN (cToH u.2.1 t x i_1) 26 t 0) i_1 t := by rw [cToH_s, if_pos (cHeQ_t c_6 c_12)]
        have hk4 := kc_post (cToH u.2.1 t x i_1) x (gN (cToH u.2.1 t x i_1) 26 t 0) i_1 t
        have hk6 := hk4
        rw [← hk3] at hk4
        have hk5 := cToH_kn u.2.1 t x (show i_1 + 1 ≤ gN u.2.1 0 0 0 by omega)
        refine w_cv (r_V (As := [.int (nI (x)), .ref (sA (ph, (cToH u.2.1 t x i_1), u.2.2) 5 (gN (cToH u.2.1 t x i_1) 26 (t) 0)), .ref (sA (ph, (cToH u.2.1 t x i_1), u.2.2) 5 (i_1)), .ref (a1)]) (rest := []) hF hB (c_X4_post l env s0 X (ph, (cToH u.2.1 t x i_1), u.2.2) (a0) (0) ((hK0.at (by decide) ha0)) (x) (sA (ph, (cToH u.2.1 t x i_1), u.2.2) 5 (gN (cToH u.2.1 t x i_1) 26 (t) 0)) (gN (cToH u.2.1 t x i_1) 26 (t) 0) (⟨(hI_3.k5 (hI_3.tx (hK0 _ _ (by decide) ha1.1).1).2), rfl⟩) (sA (ph, (cToH u.2.1 t x i_1), u.2.2) 5 (i_1)) (i_1) (⟨(hI_3.k5 (by omega)), rfl⟩) (a1) (t) ((hK0.at (by decide) ha1)) hZ0 hNb_4 (hrb1.le (by omega)) (by omega) (by omega)) cv_X4_post tw_2_145 ⟨rfl, rfl, Nat.le_of_ble_eq_true rfl, Nat.le_of_ble_eq_true rfl⟩ (hB.recv (hK0.at (by decide) ha0) (cn_0 env (ph, (cToH u.2.1 t x i_1), u.2.2) (0)) rfl) rfl hl.1 rfl (lv_room (by decide)) dX4_tellHomes_57 ⟨(by show _ ≤ kc (cToH u.2.1 t x (gN u.2.1 0 0 0)) - kc u.2.1; first | omega | (dsimp only [wC]; omega)), (by show _ ≤ ks (cToH u.2.1 t x (gN u.2.1 0 0 0)) - ks u.2.1; first | omega | (dsimp only [wC]; omega))⟩) hB (fun u_17 H locs hq_16 hB => ?_)
        obtain ⟨ph_18, rfl, hZ_19, hK_20⟩ := hq_16
        replace hB : Bd env s0 X (ph_18, (cPost ((cToH u.2.1 t x i_1)) (x) (gN (cToH u.2.1 t x i_1) 26 (t) 0) (i_1) (t)), u.2.2) s H locs := hB
        replace hZ_19 : SZ env (ph_18, (cPost ((cToH u.2.1 t x i_1)) (x) (gN (cToH u.2.1 t x i_1) 26 (t) 0) (i_1) (t)), u.2.2) := hZ_19
        replace hK_20 : Kp (ph, (cToH u.2.1 t x i_1), u.2.2) (ph_18, (cPost ((cToH u.2.1 t x i_1)) (x) (gN (cToH u.2.1 t x i_1) 26 (t) 0) (i_1) (t)), u.2.2) := hK_20
        have hI_21 : SI env (ph_18, (cPost ((cToH u.2.1 t x i_1)) (x) (gN (cToH u.2.1 t x i_1) 26 (t) 0) (i_1) (t)), u.2.2) := hZ_19.1
        have hNb_22 : Nb (cPost ((cToH u.2.1 t x i_1)) (x) (gN (cToH u.2.1 t x i_1) 26 (t) 0) (i_1) (t)) := Nb.post hNb_4 (hrb1.le (by omega)) (by omega) (by omega) (by omega) (by omega)
        have hKp_23 : Kp u (ph_18, (cPost ((cToH u.2.1 t x i_1)) (x) (gN (cToH u.2.1 t x i_1) 26 (t) 0) (i_1) (t)), u.2.2) := Kp.tr hK0 hK_20
        show W p l e _ s m _ below meth c H locs _ _ _ (F0 m _ ls [])
        refine lv_iinc (v := nI ((cToHn u.2.1 t x (i_1)) + 1)) (lv' := [(3, .int (nI ((cToHn u.2.1 t x (i_1)) + 1))), (0, .ref (a0)), (1, .ref (a1)), (2, .int (nI (x))), (4, .int (nI (i_1)))]) hx hb dX4_tellHomes_60 hl (k := 3) rfl (nI_add _ _) (by decide) rfl (fun ls hl => ?_)
        refine lv_iinc (v := nI (i_1 + 1)) (lv' := [(4, .int (nI (i_1 + 1))), (3, .int (nI ((cToHn u.2.1 t x (i_1)) + 1))), (0, .ref (a0)), (1, .ref (a1)), (2, .int (nI (x)))]) hx hb dX4_tellHomes_63 hl (k := 4) rfl (nI_add _ _) (by decide) rfl (fun ls hl => ?_)
        refine lv_goto (tgt := 5) hx hb dX4_tellHomes_66 (by decide) ?_
        have ea_24 : cToHn u.2.1 t x (i_1 + 1) = (cToHn u.2.1 t x (i_1)) + 1 := by rw [cToHn_s, if_pos (cHeQ_t c_6 c_12)]
        have em_25 : (cToH u.2.1 t x ((i_1 + 1))) = (cPost ((cToH u.2.1 t x i_1)) (x) (gN (cToH u.2.1 t x i_1) 26 (t) 0) (i_1) (t)) := by rw [cToH_s, if_pos (cHeQ_t c_6 c_12)]
        exact ih5 (H, locs, ls, ph_18, _, _) (by omega) ⟨⟨(by rw [em_25]; exact hB), (by rw [em_25]; exact hZ_19), (by rw [em_25]; exact hKp_23), (by rw [em_25] <;> first | omega | (dsimp only [wC]; omega)), (by rw [em_25] <;> first | omega | (dsimp only [wC]; omega))⟩, by show lv_has ls 5 [(0, .ref (a0)), (1, .ref (a1)), (2, .int (nI (x))), (3, .int (nI (cToHn u.2.1 t x (i_1 + 1)))), (4, .int (nI (i_1 + 1)))]; rw [ea_24]; exact lv_sub hl [2, 3, 4, 1, 0] rfl⟩

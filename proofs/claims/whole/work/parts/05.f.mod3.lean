set_option maxHeartbeats 4000000 in
set_option maxRecDepth 100000 in
theorem c_X5_comes (l : Launch) (env : Ev) (s0 : Nat) (X : va_W) (u : St) (a0 : Nat) (_xa0 : Nat) (ha0 : At u 20 (0) a0) (w : Nat) (t : Nat) (own : Bool) (hM : MI u) (hV : MV u.2.2) (hNm : Nb u.2.2) (hw : w < 4) (ht : t < 150) (hc : gN u.2.2 70 0 w < 150) (hh : gN u.2.2 68 0 (4 * w + gN u.2.2 56 0 t) < 1000) (hm : own = false → gN u.2.2 72 0 0 < 2400) : Met l yX5_comes [Cond.code yX5_comes cX5_comes 4 none] { frames := 1, cells := 0, slots := 0, locals := 24 } (va_Pc [.ref (a0), .int (nI (w)), .int (nI (t)), .int (b2i (own))] (Pr env s0 X u)) (va_Qv (fun u' => u' = wM u (mComes u.2.2 (w) (t) (own))) (Po env s0 X) (fun q => s0 ≤ q)) 0 0 (fun q => s0 ≤ q) := by
  refine Met.ofW (cc := cX5_comes) (maxL := 4) (ret := none) (by decide) rfl ?_
  intro p e s m args below meth c s₁ B hml hv
  obtain ⟨rfl, hv⟩ := hv
  have hx := B.exec
  have hb := B.bytes
  have hr := B.returns
  have hts : ∀ ww ∈ TT, ww.before #[.ref (a0), .int (nI (w)), .int (nI (t)), .int (b2i (own))] s = true := fun ww hw => hv.2.1 ww hw _
  have hown : s.vm.findClass RX5 = some m.cls := findClass_of_methodNamed B.named
  have hlocks := B.notSynchronized
  have hF : CallFix p m c cX5_comes 4 s #[.ref (a0), .int (nI (w)), .int (nI (t)), .int (b2i (own))] TT RX5 := ⟨hx, hb, hml, hown, hts⟩
  have hB := Bd.entry hv
  have hl := lv_entry ([.ref (a0), .int (nI (w)), .int (nI (t)), .int (b2i (own))]) (n := 4) (Nat.le_of_ble_eq_true rfl)
  rw [lg_entry_eq]
  generalize (lg_sl ([.ref (a0), .int (nI (w)), .int (nI (t)), .int (b2i (own))]) ++ List.replicate (4 - (lg_sl ([.ref (a0), .int (nI (w)), .int (nI (t)), .int (b2i (own))])).length) Slot.unset).toArray = ls at hl ⊢
  have hl : lv_has ls 4 [(0, .ref (a0)), (1, .int (nI (w))), (2, .int (nI (t))), (3, .int (b2i (own)))] := hl
  refine lv_aload_n hx hb dX5_comes_0 rfl (lv_at hl 0 rfl) ?_
  refine w_get (v := .ref (sA u 39 0)) (fk := 18) hF hB ha0 (cn_20 env u (0)) rfl in_X5 (by decide) tw_3_113 rfl rfl dX5_comes_1 ?_
  refine lv_iconst (v := nI 4) hx hb dX5_comes_4 (by decide) ?_
  refine lv_iload_n hx hb dX5_comes_5 rfl (lv_at hl 1 rfl) ?_
  refine w_imul_n hx hb dX5_comes_6 ?_
  refine lv_aload_n hx hb dX5_comes_7 rfl (lv_at hl 0 rfl) ?_
  refine w_get (v := .ref (sA u 27 0)) (fk := 6) hF hB ha0 (cn_20 env u (0)) rfl in_X5 (by decide) tw_3_101 rfl rfl dX5_comes_8 ?_
  refine lv_iload_n hx hb dX5_comes_11 rfl (lv_at hl 2 rfl) ?_
  refine w_iald (v := .int (nI (gN u.2.2 56 (0) (t)))) hF hB ⟨hM 27 (by decide), rfl⟩ (cn_27 env u (0)) (by omega) rfl (by decide) dX5_comes_12 ?_
  refine w_iadd_n hx hb dX5_comes_13 ?_
  refine lv_dup2_11 hx hb dX5_comes_14 rfl rfl ?_
  refine w_iald (v := .int (nI (gN u.2.2 68 (0) ((4 * w) + (gN u.2.2 56 (0) (t)))))) hF hB ⟨hM 39 (by decide), rfl⟩ (cn_39 env u (0)) (by have := hV.site (t); omega) rfl (by decide) dX5_comes_15 ?_
  refine lv_iconst (v := nI 1) hx hb dX5_comes_16 (by decide) ?_
  refine w_iadd_n hx hb dX5_comes_17 ?_
  refine w_iast (x := nI ((gN u.2.2 68 (0) ((4 * w) + (gN u.2.2 56 (0) (t)))) + 1)) hF hB ⟨hM 39 (by decide), rfl⟩ (wM u (uN u.2.2 68 (0) ((4 * w) + (gN u.2.2 56 (0) (t))) ((gN u.2.2 68 (0) ((4 * w) + (gN u.2.2 56 (0) (t)))) + 1))) (cn_39 env u (0)) (by have := hV.site (t); omega) (by decide) rfl rfl (cu_N68 env u (0) ((4 * w) + (gN u.2.2 56 (0) (t))) ((gN u.2.2 68 (0) ((4 * w) + (gN u.2.2 56 (0) (t)))) + 1)) dX5_comes_18 (fun H locs hB => ?_)
  refine lv_aload_n hx hb dX5_comes_19 rfl (lv_at hl 0 rfl) ?_
  refine w_get (v := .ref (sA u 40 0)) (fk := 19) hF hB ha0 (cn_20 env (wM u (uN u.2.2 68 (0) ((4 * w) + (gN u.2.2 56 (0) (t))) ((gN u.2.2 68 (0) ((4 * w) + (gN u.2.2 56 (0) (t)))) + 1))) (0)) rfl in_X5 (by decide) tw_3_114 rfl rfl dX5_comes_20 ?_
  refine lv_sipush (v := nI 150) hx hb dX5_comes_23 (by decide) ?_
  refine lv_iload_n hx hb dX5_comes_26 rfl (lv_at hl 1 rfl) ?_
  refine w_imul_n hx hb dX5_comes_27 ?_
  refine lv_aload_n hx hb dX5_comes_28 rfl (lv_at hl 0 rfl) ?_
  refine w_get (v := .ref (sA u 41 0)) (fk := 20) hF hB ha0 (cn_20 env (wM u (uN u.2.2 68 (0) ((4 * w) + (gN u.2.2 56 (0) (t))) ((gN u.2.2 68 (0) ((4 * w) + (gN u.2.2 56 (0) (t)))) + 1))) (0)) rfl in_X5 (by decide) tw_3_115 rfl rfl dX5_comes_29 ?_
  refine lv_iload_n hx hb dX5_comes_32 rfl (lv_at hl 1 rfl) ?_
  refine w_iald (v := .int (nI (gN u.2.2 70 (0) (w)))) hF hB ⟨hM 41 (by decide), rfl⟩ (cn_41 env (wM u (uN u.2.2 68 (0) ((4 * w) + (gN u.2.2 56 (0) (t))) ((gN u.2.2 68 (0) ((4 * w) + (gN u.2.2 56 (0) (t)))) + 1))) (0)) (by omega) rfl (by decide) dX5_comes_33 ?_
  refine w_iadd_n hx hb dX5_comes_34 ?_
  refine lv_iload_n hx hb dX5_comes_35 rfl (lv_at hl 2 rfl) ?_
  refine w_iast (x := nI (t)) hF hB ⟨hM 40 (by decide), rfl⟩ (wM u (uN (uN u.2.2 68 (0) ((4 * w) + (gN u.2.2 56 (0) (t))) ((gN u.2.2 68 (0) ((4 * w) + (gN u.2.2 56 (0) (t)))) + 1)) 69 (0) ((150 * w) + (gN u.2.2 70 (0) (w))) (t))) (cn_40 env (wM u (uN u.2.2 68 (0) ((4 * w) + (gN u.2.2 56 (0) (t))) ((gN u.2.2 68 (0) ((4 * w) + (gN u.2.2 56 (0) (t)))) + 1))) (0)) (by have := hV.cm (w); omega) (by decide) rfl rfl (cu_N69 env (wM u (uN u.2.2 68 (0) ((4 * w) + (gN u.2.2 56 (0) (t))) ((gN u.2.2 68 (0) ((4 * w) + (gN u.2.2 56 (0) (t)))) + 1))) (0) ((150 * w) + (gN u.2.2 70 (0) (w))) (t)) dX5_comes_36 (fun H locs hB => ?_)
  refine lv_aload_n hx hb dX5_comes_37 rfl (lv_at hl 0 rfl) ?_
  refine w_get (v := .ref (sA u 41 0)) (fk := 20) hF hB ha0 (cn_20 env (wM u (uN (uN u.2.2 68 (0) ((4 * w) + (gN u.2.2 56 (0) (t))) ((gN u.2.2 68 (0) ((4 * w) + (gN u.2.2 56 (0) (t)))) + 1)) 69 (0) ((150 * w) + (gN u.2.2 70 (0) (w))) (t))) (0)) rfl in_X5 (by decide) tw_3_115 rfl rfl dX5_comes_38 ?_
  refine lv_iload_n hx hb dX5_comes_41 rfl (lv_at hl 1 rfl) ?_
  refine lv_dup2_11 hx hb dX5_comes_42 rfl rfl ?_
  refine w_iald (v := .int (nI (gN u.2.2 70 (0) (w)))) hF hB ⟨hM 41 (by decide), rfl⟩ (cn_41 env (wM u (uN (uN u.2.2 68 (0) ((4 * w) + (gN u.2.2 56 (0) (t))) ((gN u.2.2 68 (0) ((4 * w) + (gN u.2.2 56 (0) (t)))) + 1)) 69 (0) ((150 * w) + (gN u.2.2 70 (0) (w))) (t))) (0)) (by omega) rfl (by decide) dX5_comes_43 ?_
  refine lv_iconst (v := nI 1) hx hb dX5_comes_44 (by decide) ?_
  refine w_iadd_n hx hb dX5_comes_45 ?_
  refine w_iast (x := nI ((gN u.2.2 70 (0) (w)) + 1)) hF hB ⟨hM 41 (by decide), rfl⟩ (wM u (uN (uN (uN u.2.2 68 (0) ((4 * w) + (gN u.2.2 56 (0) (t))) ((gN u.2.2 68 (0) ((4 * w) + (gN u.2.2 56 (0) (t)))) + 1)) 69 (0) ((150 * w) + (gN u.2.2 70 (0) (w))) (t)) 70 (0) (w) ((gN u.2.2 70 (0) (w)) + 1))) (cn_41 env (wM u (uN (uN u.2.2 68 (0) ((4 * w) + (gN u.2.2 56 (0) (t))) ((gN u.2.2 68 (0) ((4 * w) + (gN u.2.2 56 (0) (t)))) + 1)) 69 (0) ((150 * w) + (gN u.2.2 70 (0) (w))) (t))) (0)) (by omega) (by decide) rfl rfl (cu_N70 env (wM u (uN (uN u.2.2 68 (0) ((4 * w) + (gN u.2.2 56 (0) (t))) ((gN u.2.2 68 (0) ((4 * w) + (gN u.2.2 56 (0) (t)))) + 1)) 69 (0) ((150 * w) + (gN u.2.2 70 (0) (w))) (t))) (0) (w) ((gN u.2.2 70 (0) (w)) + 1)) dX5_comes_46 (fun H locs hB => ?_)
  refine lv_aload_n hx hb dX5_comes_47 rfl (lv_at hl 0 rfl) ?_
  refine lv_iload_n hx hb dX5_comes_48 rfl (lv_at hl 2 rfl) ?_
  refine lv_iload_n hx hb dX5_comes_49 rfl (lv_at hl 1 rfl) ?_
  refine w_cv (r_V (As := [.int (nI (t)), .int (nI (w))]) (rest := []) hF hB (c_X5_unlock l env s0 X (wM u (uN (uN (uN u.2.2 68 (0) ((4 * w) + (gN u.2.2 56 (0) (t))) ((gN u.2.2 68 (0) ((4 * w) + (gN u.2.2 56 (0) (t)))) + 1)) 69 (0) ((150 * w) + (gN u.2.2 70 (0) (w))) (t)) 70 (0) (w) ((gN u.2.2 70 (0) (w)) + 1))) (a0) (0) (ha0) (t) (w) hM (MV.u70 (MV.u69 (show MV (uN u.2.2 68 (0) ((4 * w) + (gN u.2.2 56 (0) (t))) ((gN u.2.2 68 (0) ((4 * w) + (gN u.2.2 56 (0) (t)))) + 1)) from hV) (j := (150 * w) + (gN u.2.2 70 (0) (w))) (v := t) (by omega)) (j := w) (v := (gN u.2.2 70 (0) (w)) + 1) (by omega)) (Nb.uN (Nb.uN (Nb.uN hNm (f := 68) (i := 0) (j := (4 * w) + (gN u.2.2 56 (0) (t))) (v := (gN u.2.2 68 (0) ((4 * w) + (gN u.2.2 56 (0) (t)))) + 1) (by have := hNm 68 (0) ((4 * w) + (gN u.2.2 56 (0) (t))); have := hNm 56 (0) (t); omega)) (f := 69) (i := 0) (j := (150 * w) + (gN u.2.2 70 (0) (w))) (v := t) (by omega)) (f := 70) (i := 0) (j := w) (v := (gN u.2.2 70 (0) (w)) + 1) (by have := hNm 70 (0) (w); omega)) ht hw) cv_X5_unlock tw_4_22 ⟨rfl, rfl, by decide, by decide⟩ (hB.recv ha0 (cn_20 env (wM u (uN (uN (uN u.2.2 68 (0) ((4 * w) + (gN u.2.2 56 (0) (t))) ((gN u.2.2 68 (0) ((4 * w) + (gN u.2.2 56 (0) (t)))) + 1)) 69 (0) ((150 * w) + (gN u.2.2 70 (0) (w))) (t)) 70 (0) (w) ((gN u.2.2 70 (0) (w)) + 1))) (0)) rfl) rfl hl.1 rfl (lv_room (by decide)) dX5_comes_50 ⟨Nat.le_of_ble_eq_true rfl, Nat.le_of_ble_eq_true rfl⟩) hB (fun u_3 H locs hq_2 hB => ?_)
  obtain rfl := hq_2
  replace hB : Bd env s0 X (wM u (mUnlock ((uN (uN (uN u.2.2 68 (0) ((4 * w) + (gN u.2.2 56 (0) (t))) ((gN u.2.2 68 (0) ((4 * w) + (gN u.2.2 56 (0) (t)))) + 1)) 69 (0) ((150 * w) + (gN u.2.2 70 (0) (w))) (t)) 70 (0) (w) ((gN u.2.2 70 (0) (w)) + 1))) (t) (w) (gN ((uN (uN (uN u.2.2 68 (0) ((4 * w) + (gN u.2.2 56 (0) (t))) ((gN u.2.2 68 (0) ((4 * w) + (gN u.2.2 56 (0) (t)))) + 1)) 69 (0) ((150 * w) + (gN u.2.2 70 (0) (w))) (t)) 70 (0) (w) ((gN u.2.2 70 (0) (w)) + 1))) 52 0 0))) s H locs := hB
  have hV_4 : MV (mUnlock ((uN (uN (uN u.2.2 68 (0) ((4 * w) + (gN u.2.2 56 (0) (t))) ((gN u.2.2 68 (0) ((4 * w) + (gN u.2.2 56 (0) (t)))) + 1)) 69 (0) ((150 * w) + (gN u.2.2 70 (0) (w))) (t)) 70 (0) (w) ((gN u.2.2 70 (0) (w)) + 1))) (t) (w) (gN ((uN (uN (uN u.2.2 68 (0) ((4 * w) + (gN u.2.2 56 (0) (t))) ((gN u.2.2 68 (0) ((4 * w) + (gN u.2.2 56 (0) (t)))) + 1)) 69 (0) ((150 * w) + (gN u.2.2 70 (0) (w))) (t)) 70 (0) (w) ((gN u.2.2 70 (0) (w)) + 1))) 52 0 0)) := MV.ofN (mUnlock_N _ _ _ _) (MV.u70 (MV.u69 (show MV (uN u.2.2 68 (0) ((4 * w) + (gN u.2.2 56 (0) (t))) ((gN u.2.2 68 (0) ((4 * w) + (gN u.2.2 56 (0) (t)))) + 1)) from hV) (j := (150 * w) + (gN u.2.2 70 (0) (w))) (v := t) (by omega)) (j := w) (v := (gN u.2.2 70 (0) (w)) + 1) (by omega))
  have hNm_5 : Nb (mUnlock ((uN (uN (uN u.2.2 68 (0) ((4 * w) + (gN u.2.2 56 (0) (t))) ((gN u.2.2 68 (0) ((4 * w) + (gN u.2.2 56 (0) (t)))) + 1)) 69 (0) ((150 * w) + (gN u.2.2 70 (0) (w))) (t)) 70 (0) (w) ((gN u.2.2 70 (0) (w)) + 1))) (t) (w) (gN ((uN (uN (uN u.2.2 68 (0) ((4 * w) + (gN u.2.2 56 (0) (t))) ((gN u.2.2 68 (0) ((4 * w) + (gN u.2.2 56 (0) (t)))) + 1)) 69 (0) ((150 * w) + (gN u.2.2 70 (0) (w))) (t)) 70 (0) (w) ((gN u.2.2 70 (0) (w)) + 1))) 52 0 0)) := Nb.ofN (mUnlock_N _ _ _ _) (Nb.uN (Nb.uN (Nb.uN hNm (f := 68) (i := 0) (j := (4 * w) + (gN u.2.2 56 (0) (t))) (v := (gN u.2.2 68 (0) ((4 * w) + (gN u.2.2 56 (0) (t)))) + 1) (by have := hNm 68 (0) ((4 * w) + (gN u.2.2 56 (0) (t))); have := hNm 56 (0) (t); omega)) (f := 69) (i := 0) (j := (150 * w) + (gN u.2.2 70 (0) (w))) (v := t) (by omega)) (f := 70) (i := 0) (j := w) (v := (gN u.2.2 70 (0) (w)) + 1) (by have := hNm 70 (0) (w); omega))
  refine lv_iload_n hx hb dX5_comes_53 rfl (lv_at hl 3 rfl) ?_
  refine w_ifne_b (tgt := 70) hx hb dX5_comes_54 (by decide) (fun c_6 => ?_) (fun c_6 => ?_)
  · exact w_vret hF hr hlocks hB (by subst c_6; rfl) dX5_comes_70
  · refine lv_aload_n hx hb dX5_comes_57 rfl (lv_at hl 0 rfl) ?_
    refine lv_iconst (v := nI 5) hx hb dX5_comes_58 (by decide) ?_
    refine lv_aload_n hx hb dX5_comes_59 rfl (lv_at hl 0 rfl) ?_
    refine w_get (v := .ref (sA u 27 0)) (fk := 6) hF hB ha0 (cn_20 env (wM u (mUnlock ((uN (uN (uN u.2.2 68 (0) ((4 * w) + (gN u.2.2 56 (0) (t))) ((gN u.2.2 68 (0) ((4 * w) + (gN u.2.2 56 (0) (t)))) + 1)) 69 (0) ((150 * w) + (gN u.2.2 70 (0) (w))) (t)) 70 (0) (w) ((gN u.2.2 70 (0) (w)) + 1))) (t) (w) (gN ((uN (uN (uN u.2.2 68 (0) ((4 * w) + (gN u.2.2 56 (0) (t))) ((gN u.2.2 68 (0) ((4 * w) + (gN u.2.2 56 (0) (t)))) + 1)) 69 (0) ((150 * w) + (gN u.2.2 70 (0) (w))) (t)) 70 (0) (w) ((gN u.2.2 70 (0) (w)) + 1))) 52 0 0))) (0)) rfl in_X5 (by decide) tw_3_101 rfl rfl dX5_comes_60 ?_
    refine lv_iload_n hx hb dX5_comes_63 rfl (lv_at hl 2 rfl) ?_
    refine w_iald (v := .int (nI (gN (mUnlock ((uN (uN (uN u.2.2 68 (0) ((4 * w) + (gN u.2.2 56 (0) (t))) ((gN u.2.2 68 (0) ((4 * w) + (gN u.2.2 56 (0) (t)))) + 1)) 69 (0) ((150 * w) + (gN u.2.2 70 (0) (w))) (t)) 70 (0) (w) ((gN u.2.2 70 (0) (w)) + 1))) (t) (w) (gN ((uN (uN (uN u.2.2 68 (0) ((4 * w) + (gN u.2.2 56 (0) (t))) ((gN u.2.2 68 (0) ((4 * w) + (gN u.2.2 56 (0) (t)))) + 1)) 69 (0) ((150 * w) + (gN u.2.2 70 (0) (w))) (t)) 70 (0) (w) ((gN u.2.2 70 (0) (w)) + 1))) 52 0 0)) 56 (0) (t)))) hF hB ⟨hM 27 (by decide), rfl⟩ (cn_27 env (wM u (mUnlock ((uN (uN (uN u.2.2 68 (0) ((4 * w) + (gN u.2.2 56 (0) (t))) ((gN u.2.2 68 (0) ((4 * w) + (gN u.2.2 56 (0) (t)))) + 1)) 69 (0) ((150 * w) + (gN u.2.2 70 (0) (w))) (t)) 70 (0) (w) ((gN u.2.2 70 (0) (w)) + 1))) (t) (w) (gN ((uN (uN (uN u.2.2 68 (0) ((4 * w) + (gN u.2.2 56 (0) (t))) ((gN u.2.2 68 (0) ((4 * w) + (gN u.2.2 56 (0) (t)))) + 1)) 69 (0) ((150 * w) + (gN u.2.2 70 (0) (w))) (t)) 70 (0) (w) ((gN u.2.2 70 (0) (w)) + 1))) 52 0 0))) (0)) (by omega) rfl (by decide) dX5_comes_64 ?_
    refine lv_iload_n hx hb dX5_comes_65 rfl (lv_at hl 1 rfl) ?_
    refine lv_iload_n hx hb dX5_comes_66 rfl (lv_at hl 2 rfl) ?_
    refine w_cv (r_V (As := [.int (nI (5)), .int (nI (gN (mUnlock ((uN (uN (uN u.2.2 68 (0) ((4 * w) + (gN u.2.2 56 (0) (t))) ((gN u.2.2 68 (0) ((4 * w) + (gN u.2.2 56 (0) (t)))) + 1)) 69 (0) ((150 * w) + (gN u.2.2 70 (0) (w))) (t)) 70 (0) (w) ((gN u.2.2 70 (0) (w)) + 1))) (t) (w) (gN ((uN (uN (uN u.2.2 68 (0) ((4 * w) + (gN u.2.2 56 (0) (t))) ((gN u.2.2 68 (0) ((4 * w) + (gN u.2.2 56 (0) (t)))) + 1)) 69 (0) ((150 * w) + (gN u.2.2 70 (0) (w))) (t)) 70 (0) (w) ((gN u.2.2 70 (0) (w)) + 1))) 52 0 0)) 56 (0) (t))), .int (nI (w)), .int (nI (t))]) (rest := []) hF hB (c_X5_send l env s0 X (wM u (mUnlock ((uN (uN (uN u.2.2 68 (0) ((4 * w) + (gN u.2.2 56 (0) (t))) ((gN u.2.2 68 (0) ((4 * w) + (gN u.2.2 56 (0) (t)))) + 1)) 69 (0) ((150 * w) + (gN u.2.2 70 (0) (w))) (t)) 70 (0) (w) ((gN u.2.2 70 (0) (w)) + 1))) (t) (w) (gN ((uN (uN (uN u.2.2 68 (0) ((4 * w) + (gN u.2.2 56 (0) (t))) ((gN u.2.2 68 (0) ((4 * w) + (gN u.2.2 56 (0) (t)))) + 1)) 69 (0) ((150 * w) + (gN u.2.2 70 (0) (w))) (t)) 70 (0) (w) ((gN u.2.2 70 (0) (w)) + 1))) 52 0 0))) (a0) (0) (ha0) (5) (gN (mUnlock ((uN (uN (uN u.2.2 68 (0) ((4 * w) + (gN u.2.2 56 (0) (t))) ((gN u.2.2 68 (0) ((4 * w) + (gN u.2.2 56 (0) (t)))) + 1)) 69 (0) ((150 * w) + (gN u.2.2 70 (0) (w))) (t)) 70 (0) (w) ((gN u.2.2 70 (0) (w)) + 1))) (t) (w) (gN ((uN (uN (uN u.2.2 68 (0) ((4 * w) + (gN u.2.2 56 (0) (t))) ((gN u.2.2 68 (0) ((4 * w) + (gN u.2.2 56 (0) (t)))) + 1)) 69 (0) ((150 * w) + (gN u.2.2 70 (0) (w))) (t)) 70 (0) (w) ((gN u.2.2 70 (0) (w)) + 1))) 52 0 0)) 56 (0) (t)) (w) (t) hM hV_4 hNm_5 (by show gN (mUnlock ((uN (uN (uN u.2.2 68 (0) ((4 * w) + (gN u.2.2 56 (0) (t))) ((gN u.2.2 68 (0) ((4 * w) + (gN u.2.2 56 (0) (t)))) + 1)) 69 (0) ((150 * w) + (gN u.2.2 70 (0) (w))) (t)) 70 (0) (w) ((gN u.2.2 70 (0) (w)) + 1))) (t) (w) (gN ((uN (uN (uN u.2.2 68 (0) ((4 * w) + (gN u.2.2 56 (0) (t))) ((gN u.2.2 68 (0) ((4 * w) + (gN u.2.2 56 (0) (t)))) + 1)) 69 (0) ((150 * w) + (gN u.2.2 70 (0) (w))) (t)) 70 (0) (w) ((gN u.2.2 70 (0) (w)) + 1))) 52 0 0)) 72 0 0 < 2400; have h1 := hm c_6; rw [mUnlock_N]; exact h1) (by decide) (hV_4.site _) hw ht) cv_X5_send tw_4_26 ⟨rfl, rfl, by decide, by decide⟩ (hB.recv ha0 (cn_20 env (wM u (mUnlock ((uN (uN (uN u.2.2 68 (0) ((4 * w) + (gN u.2.2 56 (0) (t))) ((gN u.2.2 68 (0) ((4 * w) + (gN u.2.2 56 (0) (t)))) + 1)) 69 (0) ((150 * w) + (gN u.2.2 70 (0) (w))) (t)) 70 (0) (w) ((gN u.2.2 70 (0) (w)) + 1))) (t) (w) (gN ((uN (uN (uN u.2.2 68 (0) ((4 * w) + (gN u.2.2 56 (0) (t))) ((gN u.2.2 68 (0) ((4 * w) + (gN u.2.2 56 (0) (t)))) + 1)) 69 (0) ((150 * w) + (gN u.2.2 70 (0) (w))) (t)) 70 (0) (w) ((gN u.2.2 70 (0) (w)) + 1))) 52 0 0))) (0)) rfl) rfl hl.1 rfl (lv_room (by decide)) dX5_comes_67 ⟨Nat.le_of_ble_eq_true rfl, Nat.le_of_ble_eq_true rfl⟩) hB (fun u_9 H locs hq_8 hB => ?_)
    obtain rfl := hq_8
    replace hB : Bd env s0 X (wM u (mSend ((mUnlock ((uN (uN (uN u.2.2 68 (0) ((4 * w) + (gN u.2.2 56 (0) (t))) ((gN u.2.2 68 (0) ((4 * w) + (gN u.2.2 56 (0) (t)))) + 1)) 69 (0) ((150 * w) + (gN u.2.2 70 (0) (w))) (t)) 70 (0) (w) ((gN u.2.2 70 (0) (w)) + 1))) (t) (w) (gN ((uN (uN (uN u.2.2 68 (0) ((4 * w) + (gN u.2.2 56 (0) (t))) ((gN u.2.2 68 (0) ((4 * w) + (gN u.2.2 56 (0) (t)))) + 1)) 69 (0) ((150 * w) + (gN u.2.2 70 (0) (w))) (t)) 70 (0) (w) ((gN u.2.2 70 (0) (w)) + 1))) 52 0 0))) (5) (gN (mUnlock ((uN (uN (uN u.2.2 68 (0) ((4 * w) + (gN u.2.2 56 (0) (t))) ((gN u.2.2 68 (0) ((4 * w) + (gN u.2.2 56 (0) (t)))) + 1)) 69 (0) ((150 * w) + (gN u.2.2 70 (0) (w))) (t)) 70 (0) (w) ((gN u.2.2 70 (0) (w)) + 1))) (t) (w) (gN ((uN (uN (uN u.2.2 68 (0) ((4 * w) + (gN u.2.2 56 (0) (t))) ((gN u.2.2 68 (0) ((4 * w) + (gN u.2.2 56 (0) (t)))) + 1)) 69 (0) ((150 * w) + (gN u.2.2 70 (0) (w))) (t)) 70 (0) (w) ((gN u.2.2 70 (0) (w)) + 1))) 52 0 0)) 56 (0) (t)) (w) (t))) s H locs := hB
    have hV_10 : MV (mSend ((mUnlock ((uN (uN (uN u.2.2 68 (0) ((4 * w) + (gN u.2.2 56 (0) (t))) ((gN u.2.2 68 (0) ((4 * w) + (gN u.2.2 56 (0) (t)))) + 1)) 69 (0) ((150 * w) + (gN u.2.2 70 (0) (w))) (t)) 70 (0) (w) ((gN u.2.2 70 (0) (w)) + 1))) (t) (w) (gN ((uN (uN (uN u.2.2 68 (0) ((4 * w) + (gN u.2.2 56 (0) (t))) ((gN u.2.2 68 (0) ((4 * w) + (gN u.2.2 56 (0) (t)))) + 1)) 69 (0) ((150 * w) + (gN u.2.2 70 (0) (w))) (t)) 70 (0) (w) ((gN u.2.2 70 (0) (w)) + 1))) 52 0 0))) (5) (gN (mUnlock ((uN (uN (uN u.2.2 68 (0) ((4 * w) + (gN u.2.2 56 (0) (t))) ((gN u.2.2 68 (0) ((4 * w) + (gN u.2.2 56 (0) (t)))) + 1)) 69 (0) ((150 * w) + (gN u.2.2 70 (0) (w))) (t)) 70 (0) (w) ((gN u.2.2 70 (0) (w)) + 1))) (t) (w) (gN ((uN (uN (uN u.2.2 68 (0) ((4 * w) + (gN u.2.2 56 (0) (t))) ((gN u.2.2 68 (0) ((4 * w) + (gN u.2.2 56 (0) (t)))) + 1)) 69 (0) ((150 * w) + (gN u.2.2 70 (0) (w))) (t)) 70 (0) (w) ((gN u.2.2 70 (0) (w)) + 1))) 52 0 0)) 56 (0) (t)) (w) (t)) := mSend_V hV_4 (hV_4.site _) hw ht (by show gN (mUnlock ((uN (uN (uN u.2.2 68 (0) ((4 * w) + (gN u.2.2 56 (0) (t))) ((gN u.2.2 68 (0) ((4 * w) + (gN u.2.2 56 (0) (t)))) + 1)) 69 (0) ((150 * w) + (gN u.2.2 70 (0) (w))) (t)) 70 (0) (w) ((gN u.2.2 70 (0) (w)) + 1))) (t) (w) (gN ((uN (uN (uN u.2.2 68 (0) ((4 * w) + (gN u.2.2 56 (0) (t))) ((gN u.2.2 68 (0) ((4 * w) + (gN u.2.2 56 (0) (t)))) + 1)) 69 (0) ((150 * w) + (gN u.2.2 70 (0) (w))) (t)) 70 (0) (w) ((gN u.2.2 70 (0) (w)) + 1))) 52 0 0)) 72 0 0 < 2400; have h1 := hm c_6; rw [mUnlock_N]; exact h1)
    have hNm_11 : Nb (mSend ((mUnlock ((uN (uN (uN u.2.2 68 (0) ((4 * w) + (gN u.2.2 56 (0) (t))) ((gN u.2.2 68 (0) ((4 * w) + (gN u.2.2 56 (0) (t)))) + 1)) 69 (0) ((150 * w) + (gN u.2.2 70 (0) (w))) (t)) 70 (0) (w) ((gN u.2.2 70 (0) (w)) + 1))) (t) (w) (gN ((uN (uN (uN u.2.2 68 (0) ((4 * w) + (gN u.2.2 56 (0) (t))) ((gN u.2.2 68 (0) ((4 * w) + (gN u.2.2 56 (0) (t)))) + 1)) 69 (0) ((150 * w) + (gN u.2.2 70 (0) (w))) (t)) 70 (0) (w) ((gN u.2.2 70 (0) (w)) + 1))) 52 0 0))) (5) (gN (mUnlock ((uN (uN (uN u.2.2 68 (0) ((4 * w) + (gN u.2.2 56 (0) (t))) ((gN u.2.2 68 (0) ((4 * w) + (gN u.2.2 56 (0) (t)))) + 1)) 69 (0) ((150 * w) + (gN u.2.2 70 (0) (w))) (t)) 70 (0) (w) ((gN u.2.2 70 (0) (w)) + 1))) (t) (w) (gN ((uN (uN (uN u.2.2 68 (0) ((4 * w) + (gN u.2.2 56 (0) (t))) ((gN u.2.2 68 (0) ((4 * w) + (gN u.2.2 56 (0) (t)))) + 1)) 69 (0) ((150 * w) + (gN u.2.2 70 (0) (w))) (t)) 70 (0) (w) ((gN u.2.2 70 (0) (w)) + 1))) 52 0 0)) 56 (0) (t)) (w) (t)) := mSend_Nb hNm_5 (by decide) (hV_4.site _) hw ht (by show gN (mUnlock ((uN (uN (uN u.2.2 68 (0) ((4 * w) + (gN u.2.2 56 (0) (t))) ((gN u.2.2 68 (0) ((4 * w) + (gN u.2.2 56 (0) (t)))) + 1)) 69 (0) ((150 * w) + (gN u.2.2 70 (0) (w))) (t)) 70 (0) (w) ((gN u.2.2 70 (0) (w)) + 1))) (t) (w) (gN ((uN (uN (uN u.2.2 68 (0) ((4 * w) + (gN u.2.2 56 (0) (t))) ((gN u.2.2 68 (0) ((4 * w) + (gN u.2.2 56 (0) (t)))) + 1)) 69 (0) ((150 * w) + (gN u.2.2 70 (0) (w))) (t)) 70 (0) (w) ((gN u.2.2 70 (0) (w)) + 1))) 52 0 0)) 72 0 0 < 2400; have h1 := hm c_6; rw [mUnlock_N]; exact h1)
    exact w_vret hF hr hlocks hB (by subst c_6; rfl) dX5_comes_70
set_option maxHeartbeats 4000000 in
set_option maxRecDepth 100000 in
theorem c_X5_becomes (l : Launch) (env : Ev) (s0 : Nat) (X : va_W) (u : St) (a0 : Nat) (_xa0 : Nat) (ha0 : At u 20 (0) a0) (t : Nat) (hM : MI u) (hV : MV u.2.2) (hNm : Nb u.2.2) (ht : t < 150) (hc : gN u.2.2 70 0 (gN u.2.2 56 0 t) < 150) (hh : gN u.2.2 68 0 (4 * gN u.2.2 56 0 t + gN u.2.2 56 0 t) < 1000) (hm : gN u.2.2 72 0 0 + 4 ≤ 2400) : Met l yX5_becomes [Cond.code yX5_becomes cX5_becomes 4 none] { frames := 2, cells := 0, slots := 0, locals := 47 } (va_Pc [.ref (a0), .int (nI (t))] (Pr env s0 X u)) (va_Qv (fun u' => u' = wM u (mBecomes u.2.2 (t))) (Po env s0 X) (fun q => s0 ≤ q)) 0 0 (fun q => s0 ≤ q) := by
  refine Met.ofW (cc := cX5_becomes) (maxL := 4) (ret := none) (by decide) rfl ?_
  intro p e s m args below meth c s₁ B hml hv
  obtain ⟨rfl, hv⟩ := hv
  have hx := B.exec
  have hb := B.bytes
  have hr := B.returns
  have hts : ∀ ww ∈ TT, ww.before #[.ref (a0), .int (nI (t))] s = true := fun ww hw => hv.2.1 ww hw _
  have hown : s.vm.findClass RX5 = some m.cls := findClass_of_methodNamed B.named
  have hlocks := B.notSynchronized
  have hF : CallFix p m c cX5_becomes 4 s #[.ref (a0), .int (nI (t))] TT RX5 := ⟨hx, hb, hml, hown, hts⟩
  have hB := Bd.entry hv
  have hl := lv_entry ([.ref (a0), .int (nI (t))]) (n := 4) (Nat.le_of_ble_eq_true rfl)
  rw [lg_entry_eq]
  generalize (lg_sl ([.ref (a0), .int (nI (t))]) ++ List.replicate (4 - (lg_sl ([.ref (a0), .int (nI (t))])).length) Slot.unset).toArray = ls at hl ⊢
  have hl : lv_has ls 4 [(0, .ref (a0)), (1, .int (nI (t)))] := hl
  have hs4 := hV.site t
  refine lv_aload_n hx hb dX5_becomes_0 rfl (lv_at hl 0 rfl) ?_
  refine w_get (v := .ref (sA u 27 0)) (fk := 6) hF hB ha0 (cn_20 env u (0)) rfl in_X5 (by decide) tw_3_101 rfl rfl dX5_becomes_1 ?_
  refine lv_iload_n hx hb dX5_becomes_4 rfl (lv_at hl 1 rfl) ?_
  refine w_iald (v := .int (nI (gN u.2.2 56 (0) (t)))) hF hB ⟨hM 27 (by decide), rfl⟩ (cn_27 env u (0)) (by omega) rfl (by decide) dX5_becomes_5 ?_
  refine lv_istore_n (lv' := [(2, .int (nI (gN u.2.2 56 (0) (t)))), (0, .ref (a0)), (1, .int (nI (t)))]) hx hb dX5_becomes_6 rfl hl (by decide) rfl (fun ls hl => ?_)
  refine lv_aload_n hx hb dX5_becomes_7 rfl (lv_at hl 1 rfl) ?_
  refine w_get (v := .ref (sA u 28 0)) (fk := 7) hF hB ha0 (cn_20 env u (0)) rfl in_X5 (by decide) tw_3_102 rfl rfl dX5_becomes_8 ?_
  refine lv_iload_n hx hb dX5_becomes_11 rfl (lv_at hl 2 rfl) ?_
  refine lv_iconst (v := nI 2) hx hb dX5_becomes_12 (by decide) ?_
  refine w_iast (x := nI (2)) hF hB ⟨hM 28 (by decide), rfl⟩ (wM u (uN u.2.2 57 (0) (t) (2))) (cn_28 env u (0)) (by omega) (by decide) rfl rfl (cu_N57 env u (0) (t) (2)) dX5_becomes_13 (fun H locs hB => ?_)
  refine lv_aload_n hx hb dX5_becomes_14 rfl (lv_at hl 1 rfl) ?_
  refine w_get (v := .ref (sA u 30 0)) (fk := 9) hF hB ha0 (cn_20 env (wM u (uN u.2.2 57 (0) (t) (2))) (0)) rfl in_X5 (by decide) tw_3_104 rfl rfl dX5_becomes_15 ?_
  refine lv_iload_n hx hb dX5_becomes_18 rfl (lv_at hl 2 rfl) ?_
  refine lv_aload_n hx hb dX5_becomes_19 rfl (lv_at hl 1 rfl) ?_
  refine w_get (v := .ref (sA u 39 0)) (fk := 18) hF hB ha0 (cn_20 env (wM u (uN u.2.2 57 (0) (t) (2))) (0)) rfl in_X5 (by decide) tw_3_113 rfl rfl dX5_becomes_20 ?_
  refine lv_iconst (v := nI 4) hx hb dX5_becomes_23 (by decide) ?_
  refine lv_iload_n hx hb dX5_becomes_24 rfl (lv_at hl 0 rfl) ?_
  refine w_imul_n hx hb dX5_becomes_25 ?_
  refine lv_iload_n hx hb dX5_becomes_26 rfl (lv_at hl 0 rfl) ?_
  refine w_iadd_n hx hb dX5_becomes_27 ?_
  refine w_iald (v := .int (nI (gN u.2.2 68 (0) ((4 * (gN u.2.2 56 (0) (t))) + (gN u.2.2 56 (0) (t)))))) hF hB ⟨hM 39 (by decide), rfl⟩ (cn_39 env (wM u (uN u.2.2 57 (0) (t) (2))) (0)) (by have := hV.site (t); omega) rfl (by decide) dX5_becomes_28 ?_
  refine lv_iconst (v := nI 1) hx hb dX5_becomes_29 (by decide) ?_
  refine w_iadd_n hx hb dX5_becomes_30 ?_
  refine w_iast (x := nI ((gN u.2.2 68 (0) ((4 * (gN u.2.2 56 (0) (t))) + (gN u.2.2 56 (0) (t)))) + 1)) hF hB ⟨hM 30 (by decide), rfl⟩ (wM u (uN (uN u.2.2 57 (0) (t) (2)) 59 (0) (t) ((gN u.2.2 68 (0) ((4 * (gN u.2.2 56 (0) (t))) + (gN u.2.2 56 (0) (t)))) + 1))) (cn_30 env (wM u (uN u.2.2 57 (0) (t) (2))) (0)) (by omega) (by decide) rfl rfl (cu_N59 env (wM u (uN u.2.2 57 (0) (t) (2))) (0) (t) ((gN u.2.2 68 (0) ((4 * (gN u.2.2 56 (0) (t))) + (gN u.2.2 56 (0) (t)))) + 1)) dX5_becomes_31 (fun H locs hB => ?_)
  refine lv_aload_n hx hb dX5_becomes_32 rfl (lv_at hl 1 rfl) ?_
  refine lv_iload_n hx hb dX5_becomes_33 rfl (lv_at hl 0 rfl) ?_
  refine lv_iload_n hx hb dX5_becomes_34 rfl (lv_at hl 2 rfl) ?_
  refine lv_iconst (v := nI 1) hx hb dX5_becomes_35 (by decide) ?_
  refine w_cv (r_V (As := [.int (nI (gN u.2.2 56 (0) (t))), .int (nI (t)), .int (nI (1))]) (rest := []) hF hB (c_X5_comes l env s0 X (wM u (uN (uN u.2.2 57 (0) (t) (2)) 59 (0) (t) ((gN u.2.2 68 (0) ((4 * (gN u.2.2 56 (0) (t))) + (gN u.2.2 56 (0) (t)))) + 1))) (a0) (0) (ha0) (gN u.2.2 56 (0) (t)) (t) (true) hM (show MV (uN (uN u.2.2 57 (0) (t) (2)) 59 (0) (t) ((gN u.2.2 68 (0) ((4 * (gN u.2.2 56 (0) (t))) + (gN u.2.2 56 (0) (t)))) + 1)) from (show MV (uN u.2.2 57 (0) (t) (2)) from hV)) (Nb.uN (Nb.uN hNm (f := 57) (i := 0) (j := t) (v := 2) (by decide)) (f := 59) (i := 0) (j := t) (v := (gN u.2.2 68 (0) ((4 * (gN u.2.2 56 (0) (t))) + (gN u.2.2 56 (0) (t)))) + 1) (by have := hNm 68 (0) ((4 * (gN u.2.2 56 (0) (t))) + (gN u.2.2 56 (0) (t))); have := hNm 56 (0) (t); omega)) (hV.site t) ht hc hh (fun z => by cases z)) cv_X5_comes tw_4_18 ⟨rfl, rfl, by decide, by decide⟩ (hB.recv ha0 (cn_20 env (wM u (uN (uN u.2.2 57 (0) (t) (2)) 59 (0) (t) ((gN u.2.2 68 (0) ((4 * (gN u.2.2 56 (0) (t))) + (gN u.2.2 56 (0) (t)))) + 1))) (0)) rfl) rfl hl.1 rfl (lv_room (by decide)) dX5_becomes_36 ⟨Nat.le_of_ble_eq_true rfl, Nat.le_of_ble_eq_true rfl⟩) hB (fun u_3 H locs hq_2 hB => ?_)
  obtain rfl := hq_2
  replace hB : Bd env s0 X (wM u (mComes ((uN (uN u.2.2 57 (0) (t) (2)) 59 (0) (t) ((gN u.2.2 68 (0) ((4 * (gN u.2.2 56 (0) (t))) + (gN u.2.2 56 (0) (t)))) + 1))) (gN u.2.2 56 (0) (t)) (t) (true))) s H locs := hB
  have hV_4 : MV (mComes ((uN (uN u.2.2 57 (0) (t) (2)) 59 (0) (t) ((gN u.2.2 68 (0) ((4 * (gN u.2.2 56 (0) (t))) + (gN u.2.2 56 (0) (t)))) + 1))) (gN u.2.2 56 (0) (t)) (t) (true)) := mComes_V (show MV (uN (uN u.2.2 57 (0) (t) (2)) 59 (0) (t) ((gN u.2.2 68 (0) ((4 * (gN u.2.2 56 (0) (t))) + (gN u.2.2 56 (0) (t)))) + 1)) from (show MV (uN u.2.2 57 (0) (t) (2)) from hV)) (hV.site t) ht hc (fun z => by cases z)
  have hNm_5 : Nb (mComes ((uN (uN u.2.2 57 (0) (t) (2)) 59 (0) (t) ((gN u.2.2 68 (0) ((4 * (gN u.2.2 56 (0) (t))) + (gN u.2.2 56 (0) (t)))) + 1))) (gN u.2.2 56 (0) (t)) (t) (true)) := mComes_Nb (show MV (uN (uN u.2.2 57 (0) (t) (2)) 59 (0) (t) ((gN u.2.2 68 (0) ((4 * (gN u.2.2 56 (0) (t))) + (gN u.2.2 56 (0) (t)))) + 1)) from (show MV (uN u.2.2 57 (0) (t) (2)) from hV)) (Nb.uN (Nb.uN hNm (f := 57) (i := 0) (j := t) (v := 2) (by decide)) (f := 59) (i := 0) (j := t) (v := (gN u.2.2 68 (0) ((4 * (gN u.2.2 56 (0) (t))) + (gN u.2.2 56 (0) (t)))) + 1) (by have := hNm 68 (0) ((4 * (gN u.2.2 56 (0) (t))) + (gN u.2.2 56 (0) (t))); have := hNm 56 (0) (t); omega)) (hV.site t) ht hc hh (fun z => by cases z)
  replace hB : Bd env s0 X (wM u (mB3 u.2.2 t)) s H locs := hB
  have hV_6 : MV (mB3 u.2.2 t) := mB3_V hV ht hc
  have hNm_7 : Nb (mB3 u.2.2 t) := mB3_Nb hV hNm ht hc hh
  refine lv_iconst (v := nI 0) hx hb dX5_becomes_39 (by decide) ?_
  refine lv_istore_n (lv' := [(3, .int (nI (0))), (2, .int (nI (gN u.2.2 56 (0) (t)))), (0, .ref (a0)), (1, .int (nI (t)))]) hx hb dX5_becomes_40 rfl hl (by decide) rfl (fun ls hl => ?_)
  refine wloopH (σ := Heap × List Loc × Array Slot) (G := fun x => W p l e _ s m _ below meth c x.1 x.2.1 _ _ _ (F0 m 41 x.2.2 [])) (P := fun i_8 x => (True) ∧ Bd env s0 X (wM u (mSendAll (mB3 u.2.2 t) (gN u.2.2 56 0 t) t i_8)) s x.1 x.2.1 ∧ lv_has x.2.2 4 [(0, .ref (a0)), (1, .int (nI (t))), (2, .int (nI (gN u.2.2 56 (0) (t)))), (3, .int (nI (i_8)))]) (N := gN u.2.2 50 0 0) ?_ 0 (_, _, ls) (Nat.zero_le _) ⟨trivial, hB, lv_sub hl [2, 3, 1, 0] rfl⟩
  rintro i_8 ⟨H, locs, ls⟩ hi_9 ⟨hv_10, hB, hl⟩ ih41
  replace hB : Bd env s0 X (wM u (mSendAll (mB3 u.2.2 t) (gN u.2.2 56 0 t) t i_8)) s H locs := hB
  replace hl : lv_has ls 4 [(0, .ref (a0)), (1, .int (nI (t))), (2, .int (nI (gN u.2.2 56 (0) (t)))), (3, .int (nI (i_8)))] := hl
  show W p l e _ s m _ below meth c H locs _ _ _ (F0 m 41 ls [])
  have := hNm 50 0 0
  have := hV.nst
  have hV_11 : MV (mSendAll (mB3 u.2.2 t) (gN u.2.2 56 0 t) t i_8) := mSendAll_V hV_6 hs4 ht (by rw [mB3_72]; exact hm) _ (by omega)
  have hNm_12 : Nb (mSendAll (mB3 u.2.2 t) (gN u.2.2 56 0 t) t i_8) := mSendAll_Nb hNm_7 hs4 ht (by rw [mB3_72]; exact hm) _ (by omega)
  refine lv_iload_n hx hb dX5_becomes_41 rfl (lv_at hl 3 rfl) ?_
  refine lv_aload_n hx hb dX5_becomes_42 rfl (lv_at hl 0 rfl) ?_
  refine w_get (v := .int (nI (gN (mSendAll (mB3 u.2.2 t) (gN u.2.2 56 0 t) t i_8) 50 (0) (0)))) (fk := 0) hF hB ha0 (cn_20 env (wM u (mSendAll (mB3 u.2.2 t) (gN u.2.2 56 0 t) t i_8)) (0)) rfl in_X5 (by decide) tw_3_95 rfl rfl dX5_becomes_43 ?_
  refine w_icge_n (tgt := 68) (by omega) (by have := hNm_12 50 (0) (0); have := hNm 56 0 t; omega) hx hb dX5_becomes_46 (by decide) (fun c_13 => ?_) (fun c_13 => ?_)
  · rw [mSendAll_f _ _ _ (by decide), mB3_50] at c_13
    exact w_vret hF hr hlocks hB (by rw [show i_8 = gN u.2.2 50 0 0 by omega]; rfl) dX5_becomes_68
  · rw [mSendAll_f _ _ _ (by decide), mB3_50] at c_13
    refine lv_iload_n hx hb dX5_becomes_49 rfl (lv_at hl 3 rfl) ?_
    refine lv_iload_n hx hb dX5_becomes_50 rfl (lv_at hl 2 rfl) ?_
    refine w_iceq_n (tgt := 62) (by omega) (by have := hNm 56 (0) (t); omega) hx hb dX5_becomes_51 (by decide) (fun c_14 => ?_) (fun c_14 => ?_)
    · refine lv_iinc (v := nI (i_8 + 1)) (lv' := [(3, .int (nI (i_8 + 1))), (0, .ref (a0)), (1, .int (nI (t))), (2, .int (nI (gN u.2.2 56 (0) (t))))]) hx hb dX5_becomes_62 hl (k := 3) rfl (nI_add _ _) (by decide) rfl (fun ls hl => ?_)
      refine lv_goto (tgt := 41) hx hb dX5_becomes_65 (by decide) ?_
      have em_15 : (mSendAll (mB3 u.2.2 t) (gN u.2.2 56 0 t) t (i_8 + 1)) = (mSendAll (mB3 u.2.2 t) (gN u.2.2 56 0 t) t i_8) := by first | rfl | simp [mSendAll, c_13, c_14]
      exact ih41 (H, locs, ls) (by omega) ⟨trivial, (by rw [em_15]; exact hB), by exact lv_sub hl [1, 2, 3, 0] rfl⟩
    · refine lv_aload_n hx hb dX5_becomes_54 rfl (lv_at hl 0 rfl) ?_
      refine lv_iconst (v := nI 4) hx hb dX5_becomes_55 (by decide) ?_
      refine lv_iload_n hx hb dX5_becomes_56 rfl (lv_at hl 3 rfl) ?_
      refine lv_iload_n hx hb dX5_becomes_57 rfl (lv_at hl 2 rfl) ?_
      refine lv_iload_n hx hb dX5_becomes_58 rfl (lv_at hl 1 rfl) ?_
      refine w_cv (r_V (As := [.int (nI (4)), .int (nI (i_8)), .int (nI (gN u.2.2 56 (0) (t))), .int (nI (t))]) (rest := []) hF hB (c_X5_send l env s0 X (wM u (mSendAll (mB3 u.2.2 t) (gN u.2.2 56 0 t) t i_8)) (a0) (0) (ha0) (4) (i_8) (gN u.2.2 56 (0) (t)) (t) hM hV_11 hNm_12 (by show gN (mSendAll (mB3 u.2.2 t) (gN u.2.2 56 0 t) t i_8) 72 0 0 < 2400; have h1 := mSendAll_72 (mB3 u.2.2 t) (gN u.2.2 56 0 t) t i_8; rw [mB3_72] at h1; omega) (by decide) (by omega) hs4 ht) cv_X5_send tw_4_26 ⟨rfl, rfl, by decide, by decide⟩ (hB.recv ha0 (cn_20 env (wM u (mSendAll (mB3 u.2.2 t) (gN u.2.2 56 0 t) t i_8)) (0)) rfl) rfl hl.1 rfl (lv_room (by decide)) dX5_becomes_59 ⟨Nat.le_of_ble_eq_true rfl, Nat.le_of_ble_eq_true rfl⟩) hB (fun u_18 H locs hq_17 hB => ?_)
      obtain rfl := hq_17
      replace hB : Bd env s0 X (wM u (mSend ((mSendAll (mB3 u.2.2 t) (gN u.2.2 56 0 t) t i_8)) (4) (i_8) (gN u.2.2 56 (0) (t)) (t))) s H locs := hB
      have hV_19 : MV (mSend ((mSendAll (mB3 u.2.2 t) (gN u.2.2 56 0 t) t i_8)) (4) (i_8) (gN u.2.2 56 (0) (t)) (t)) := mSend_V hV_11 (by omega) hs4 ht (by show gN (mSendAll (mB3 u.2.2 t) (gN u.2.2 56 0 t) t i_8) 72 0 0 < 2400; have h1 := mSendAll_72 (mB3 u.2.2 t) (gN u.2.2 56 0 t) t i_8; rw [mB3_72] at h1; omega)
      have hNm_20 : Nb (mSend ((mSendAll (mB3 u.2.2 t) (gN u.2.2 56 0 t) t i_8)) (4) (i_8) (gN u.2.2 56 (0) (t)) (t)) := mSend_Nb hNm_12 (by decide) (by omega) hs4 ht (by show gN (mSendAll (mB3 u.2.2 t) (gN u.2.2 56 0 t) t i_8) 72 0 0 < 2400; have h1 := mSendAll_72 (mB3 u.2.2 t) (gN u.2.2 56 0 t) t i_8; rw [mB3_72] at h1; omega)
      refine lv_iinc (v := nI (i_8 + 1)) (lv' := [(3, .int (nI (i_8 + 1))), (0, .ref (a0)), (1, .int (nI (t))), (2, .int (nI (gN u.2.2 56 (0) (t))))]) hx hb dX5_becomes_62 hl (k := 3) rfl (nI_add _ _) (by decide) rfl (fun ls hl => ?_)
      refine lv_goto (tgt := 41) hx hb dX5_becomes_65 (by decide) ?_
      have em_21 : (mSendAll (mB3 u.2.2 t) (gN u.2.2 56 0 t) t (i_8 + 1)) = (mSend ((mSendAll (mB3 u.2.2 t) (gN u.2.2 56 0 t) t i_8)) (4) (i_8) (gN u.2.2 56 (0) (t)) (t)) := by first | rfl | simp [mSendAll, c_13, c_14]
      exact ih41 (H, locs, ls) (by omega) ⟨trivial, (by rw [em_21]; exact hB), by exact lv_sub hl [1, 2, 3, 0] rfl⟩
set_option maxHeartbeats 4000000 in
set_option maxRecDepth 100000 in
theorem c_X5_refused (l : Launch) (env : Ev) (s0 : Nat) (X : va_W) (u : St) (a0 : Nat) (_xa0 : Nat) (ha0 : At u 20 (0) a0) (t : Nat) (hM : MI u) (hV : MV u.2.2) (hNm : Nb u.2.2) (ht : t < 150) (hm : gN u.2.2 72 0 0 + 4 ≤ 2400) : Met l yX5_refused [Cond.code yX5_refused cX5_refused 3 none] { frames := 1, cells := 0, slots := 0, locals := 24 } (va_Pc [.ref (a0), .int (nI (t))] (Pr env s0 X u)) (va_Qv (fun u' => u' = wM u (mRefused u.2.2 (t))) (Po env s0 X) (fun q => s0 ≤ q)) 0 0 (fun q => s0 ≤ q) := by
  refine Met.ofW (cc := cX5_refused) (maxL := 3) (ret := none) (by decide) rfl ?_
  intro p e s m args below meth c s₁ B hml hv
  obtain ⟨rfl, hv⟩ := hv
  have hx := B.exec
  have hb := B.bytes
  have hr := B.returns
  have hts : ∀ ww ∈ TT, ww.before #[.ref (a0), .int (nI (t))] s = true := fun ww hw => hv.2.1 ww hw _
  have hown : s.vm.findClass RX5 = some m.cls := findClass_of_methodNamed B.named
  have hlocks := B.notSynchronized
  have hF : CallFix p m c cX5_refused 3 s #[.ref (a0), .int (nI (t))] TT RX5 := ⟨hx, hb, hml, hown, hts⟩
  have hB := Bd.entry hv
  have hl := lv_entry ([.ref (a0), .int (nI (t))]) (n := 3) (Nat.le_of_ble_eq_true rfl)
  rw [lg_entry_eq]
  generalize (lg_sl ([.ref (a0), .int (nI (t))]) ++ List.replicate (3 - (lg_sl ([.ref (a0), .int (nI (t))])).length) Slot.unset).toArray = ls at hl ⊢
  have hl : lv_has ls 3 [(0, .ref (a0)), (1, .int (nI (t)))] := hl
  have hs4 := hV.site t
  refine lv_aload_n hx hb dX5_refused_0 rfl (lv_at hl 0 rfl) ?_
  refine w_get (v := .ref (sA u 28 0)) (fk := 7) hF hB ha0 (cn_20 env u (0)) rfl in_X5 (by decide) tw_3_102 rfl rfl dX5_refused_1 ?_
  refine lv_iload_n hx hb dX5_refused_4 rfl (lv_at hl 1 rfl) ?_
  refine w_iald (v := .int (nI (gN u.2.2 57 (0) (t)))) hF hB ⟨hM 28 (by decide), rfl⟩ (cn_28 env u (0)) (by omega) rfl (by decide) dX5_refused_5 ?_
  refine lv_iconst (v := nI 1) hx hb dX5_refused_6 (by decide) ?_
  refine w_icne_n (tgt := 76) (by have := hNm 57 (0) (t); omega) (by decide) hx hb dX5_refused_7 (by decide) (fun c_1 => ?_) (fun c_1 => ?_)
  · exact w_vret hF hr hlocks hB (by rw [mRefused, if_neg c_1]; rfl) dX5_refused_76
  · refine lv_aload_n hx hb dX5_refused_10 rfl (lv_at hl 0 rfl) ?_
    refine w_get (v := .ref (sA u 28 0)) (fk := 7) hF hB ha0 (cn_20 env u (0)) rfl in_X5 (by decide) tw_3_102 rfl rfl dX5_refused_11 ?_
    refine lv_iload_n hx hb dX5_refused_14 rfl (lv_at hl 1 rfl) ?_
    refine lv_iconst (v := nI 3) hx hb dX5_refused_15 (by decide) ?_
    refine w_iast (x := nI (3)) hF hB ⟨hM 28 (by decide), rfl⟩ (wM u (uN u.2.2 57 (0) (t) (3))) (cn_28 env u (0)) (by omega) (by decide) rfl rfl (cu_N57 env u (0) (t) (3)) dX5_refused_16 (fun H locs hB => ?_)
    refine lv_aload_n hx hb dX5_refused_17 rfl (lv_at hl 0 rfl) ?_
    refine lv_iload_n hx hb dX5_refused_18 rfl (lv_at hl 1 rfl) ?_
    refine lv_aload_n hx hb dX5_refused_19 rfl (lv_at hl 0 rfl) ?_
    refine w_get (v := .ref (sA u 27 0)) (fk := 6) hF hB ha0 (cn_20 env (wM u (uN u.2.2 57 (0) (t) (3))) (0)) rfl in_X5 (by decide) tw_3_101 rfl rfl dX5_refused_20 ?_
    refine lv_iload_n hx hb dX5_refused_23 rfl (lv_at hl 1 rfl) ?_
    refine w_iald (v := .int (nI (gN u.2.2 56 (0) (t)))) hF hB ⟨hM 27 (by decide), rfl⟩ (cn_27 env (wM u (uN u.2.2 57 (0) (t) (3))) (0)) (by omega) rfl (by decide) dX5_refused_24 ?_
    refine w_cv (r_V (As := [.int (nI (t)), .int (nI (gN u.2.2 56 (0) (t)))]) (rest := []) hF hB (c_X5_unlock l env s0 X (wM u (uN u.2.2 57 (0) (t) (3))) (a0) (0) (ha0) (t) (gN u.2.2 56 (0) (t)) hM (show MV (uN u.2.2 57 (0) (t) (3)) from hV) (Nb.uN hNm (f := 57) (i := 0) (j := t) (v := 3) (by decide)) ht hs4) cv_X5_unlock tw_4_22 ⟨rfl, rfl, by decide, by decide⟩ (hB.recv ha0 (cn_20 env (wM u (uN u.2.2 57 (0) (t) (3))) (0)) rfl) rfl hl.1 rfl (lv_room (by decide)) dX5_refused_25 ⟨Nat.le_of_ble_eq_true rfl, Nat.le_of_ble_eq_true rfl⟩) hB (fun u_4 H locs hq_3 hB => ?_)
    obtain rfl := hq_3
    replace hB : Bd env s0 X (wM u (mUnlock ((uN u.2.2 57 (0) (t) (3))) (t) (gN u.2.2 56 (0) (t)) (gN ((uN u.2.2 57 (0) (t) (3))) 52 0 0))) s H locs := hB
    have hV_5 : MV (mUnlock ((uN u.2.2 57 (0) (t) (3))) (t) (gN u.2.2 56 (0) (t)) (gN ((uN u.2.2 57 (0) (t) (3))) 52 0 0)) := MV.ofN (mUnlock_N _ _ _ _) (show MV (uN u.2.2 57 (0) (t) (3)) from hV)
    have hNm_6 : Nb (mUnlock ((uN u.2.2 57 (0) (t) (3))) (t) (gN u.2.2 56 (0) (t)) (gN ((uN u.2.2 57 (0) (t) (3))) 52 0 0)) := Nb.ofN (mUnlock_N _ _ _ _) (Nb.uN hNm (f := 57) (i := 0) (j := t) (v := 3) (by decide))
    replace hB : Bd env s0 X (wM u (mR2 u.2.2 t)) s H locs := hB
    have hV_7 : MV (mR2 u.2.2 t) := mR2_V hV t
    have hNm_8 : Nb (mR2 u.2.2 t) := mR2_Nb hNm t
    refine lv_iconst (v := nI 0) hx hb dX5_refused_28 (by decide) ?_
    refine lv_istore_n (lv' := [(2, .int (nI (0))), (0, .ref (a0)), (1, .int (nI (t)))]) hx hb dX5_refused_29 rfl hl (by decide) rfl (fun ls hl => ?_)
    refine wloopH (σ := Heap × List Loc × Array Slot) (G := fun x => W p l e _ s m _ below meth c x.1 x.2.1 _ _ _ (F0 m 30 x.2.2 [])) (P := fun i_9 x => (True) ∧ Bd env s0 X (wM u (mRefL (mR2 u.2.2 t) t i_9)) s x.1 x.2.1 ∧ lv_has x.2.2 3 [(0, .ref (a0)), (1, .int (nI (t))), (2, .int (nI (i_9)))]) (N := gN u.2.2 50 0 0) ?_ 0 (_, _, ls) (Nat.zero_le _) ⟨trivial, hB, lv_sub hl [1, 2, 0] rfl⟩
    rintro i_9 ⟨H, locs, ls⟩ hi_10 ⟨hv_11, hB, hl⟩ ih30
    replace hB : Bd env s0 X (wM u (mRefL (mR2 u.2.2 t) t i_9)) s H locs := hB
    replace hl : lv_has ls 3 [(0, .ref (a0)), (1, .int (nI (t))), (2, .int (nI (i_9)))] := hl
    show W p l e _ s m _ below meth c H locs _ _ _ (F0 m 30 ls [])
    have := hNm 50 0 0
    have := hV.nst
    have hV_12 : MV (mRefL (mR2 u.2.2 t) t i_9) := mRefL_V hV_7 ht (by rw [mR2_f _ _ (by decide)]; exact hm) _ (by omega)
    have hNm_13 : Nb (mRefL (mR2 u.2.2 t) t i_9) := mRefL_Nb (mR2_V hV t) hNm_8 ht (by rw [mR2_f _ _ (by decide)]; exact hm) _ (by omega)
    refine lv_iload_n hx hb dX5_refused_30 rfl (lv_at hl 2 rfl) ?_
    refine lv_aload_n hx hb dX5_refused_31 rfl (lv_at hl 0 rfl) ?_
    refine w_get (v := .int (nI (gN (mRefL (mR2 u.2.2 t) t i_9) 50 (0) (0)))) (fk := 0) hF hB ha0 (cn_20 env (wM u (mRefL (mR2 u.2.2 t) t i_9)) (0)) rfl in_X5 (by decide) tw_3_95 rfl rfl dX5_refused_32 ?_
    refine w_icge_n (tgt := 76) (by omega) (by have := hNm_13 50 (0) (0); omega) hx hb dX5_refused_35 (by decide) (fun c_14 => ?_) (fun c_14 => ?_)
    · rw [mRefL_f _ _ (by decide), mR2_f _ _ (by decide)] at c_14
      exact w_vret hF hr hlocks hB (by rw [mRefused, if_pos c_1, show i_9 = gN u.2.2 50 0 0 by omega]) dX5_refused_76
    · rw [mRefL_f _ _ (by decide), mR2_f _ _ (by decide)] at c_14
      refine lv_iload_n hx hb dX5_refused_38 rfl (lv_at hl 2 rfl) ?_
      refine lv_aload_n hx hb dX5_refused_39 rfl (lv_at hl 0 rfl) ?_
      refine w_get (v := .ref (sA u 27 0)) (fk := 6) hF hB ha0 (cn_20 env (wM u (mRefL (mR2 u.2.2 t) t i_9)) (0)) rfl in_X5 (by decide) tw_3_101 rfl rfl dX5_refused_40 ?_
      refine lv_iload_n hx hb dX5_refused_43 rfl (lv_at hl 1 rfl) ?_
      refine w_iald (v := .int (nI (gN (mRefL (mR2 u.2.2 t) t i_9) 56 (0) (t)))) hF hB ⟨hM 27 (by decide), rfl⟩ (cn_27 env (wM u (mRefL (mR2 u.2.2 t) t i_9)) (0)) (by omega) rfl (by decide) dX5_refused_44 ?_
      refine w_iceq_n (tgt := 70) (by omega) (by have := hNm_13 56 (0) (t); omega) hx hb dX5_refused_45 (by decide) (fun c_15 => ?_) (fun c_15 => ?_)
      · refine lv_iinc (v := nI (i_9 + 1)) (lv' := [(2, .int (nI (i_9 + 1))), (0, .ref (a0)), (1, .int (nI (t)))]) hx hb dX5_refused_70 hl (k := 2) rfl (nI_add _ _) (by decide) rfl (fun ls hl => ?_)
        refine lv_goto (tgt := 30) hx hb dX5_refused_73 (by decide) ?_
        have em_16 : (mRefL (mR2 u.2.2 t) t (i_9 + 1)) = (mRefL (mR2 u.2.2 t) t i_9) := by rw [mRefL_s, if_neg (fun z => z.1 c_15)]
        exact ih30 (H, locs, ls) (by omega) ⟨trivial, (by rw [em_16]; exact hB), by exact lv_sub hl [1, 2, 0] rfl⟩
      · refine lv_aload_n hx hb dX5_refused_48 rfl (lv_at hl 0 rfl) ?_
        refine lv_iload_n hx hb dX5_refused_49 rfl (lv_at hl 1 rfl) ?_
        refine lv_iload_n hx hb dX5_refused_50 rfl (lv_at hl 2 rfl) ?_
        refine w_ci (r_V (As := [.int (nI (t)), .int (nI (i_9))]) (rest := []) hF hB (c_X5_writesAt l env s0 X (wM u (mRefL (mR2 u.2.2 t) t i_9)) (a0) (0) (ha0) (t) (i_9) hM hV_12 hNm_13 ht (by omega)) cv_X5_writesAt tw_4_34 ⟨rfl, rfl, by decide, by decide⟩ (hB.recv ha0 (cn_20 env (wM u (mRefL (mR2 u.2.2 t) t i_9)) (0)) rfl) rfl hl.1 rfl (lv_room (by decide)) dX5_refused_51 ⟨Nat.le_of_ble_eq_true rfl, Nat.le_of_ble_eq_true rfl⟩) hB (fun r_17 u_19 H locs hq_18 hB => ?_)
        obtain ⟨rfl, rfl⟩ := hq_18
        show W p l e _ s m _ below meth c H locs _ _ _ (F0 m _ ls [.int (b2i (mWritesAt (mRefL (mR2 u.2.2 t) t i_9) (t) (i_9)))])
        refine w_ifeq_b (tgt := 70) hx hb dX5_refused_54 (by decide) (fun c_20 => ?_) (fun c_20 => ?_)
        · refine lv_iinc (v := nI (i_9 + 1)) (lv' := [(2, .int (nI (i_9 + 1))), (0, .ref (a0)), (1, .int (nI (t)))]) hx hb dX5_refused_70 hl (k := 2) rfl (nI_add _ _) (by decide) rfl (fun ls hl => ?_)
          refine lv_goto (tgt := 30) hx hb dX5_refused_73 (by decide) ?_
          have em_21 : (mRefL (mR2 u.2.2 t) t (i_9 + 1)) = (mRefL (mR2 u.2.2 t) t i_9) := by rw [mRefL_s, if_neg (fun z => by rw [c_20] at z; exact absurd z.2 (by decide))]
          exact ih30 (H, locs, ls) (by omega) ⟨trivial, (by rw [em_21]; exact hB), by exact lv_sub hl [1, 2, 0] rfl⟩
        · refine lv_aload_n hx hb dX5_refused_57 rfl (lv_at hl 0 rfl) ?_
          refine lv_iconst (v := nI 3) hx hb dX5_refused_58 (by decide) ?_
          refine lv_iload_n hx hb dX5_refused_59 rfl (lv_at hl 2 rfl) ?_
          refine lv_aload_n hx hb dX5_refused_60 rfl (lv_at hl 0 rfl) ?_
          refine w_get (v := .ref (sA u 27 0)) (fk := 6) hF hB ha0 (cn_20 env (wM u (mRefL (mR2 u.2.2 t) t i_9)) (0)) rfl in_X5 (by decide) tw_3_101 rfl rfl dX5_refused_61 ?_
          refine lv_iload_n hx hb dX5_refused_64 rfl (lv_at hl 1 rfl) ?_
          refine w_iald (v := .int (nI (gN (mRefL (mR2 u.2.2 t) t i_9) 56 (0) (t)))) hF hB ⟨hM 27 (by decide), rfl⟩ (cn_27 env (wM u (mRefL (mR2 u.2.2 t) t i_9)) (0)) (by omega) rfl (by decide) dX5_refused_65 ?_
          refine lv_iload_n hx hb dX5_refused_66 rfl (lv_at hl 1 rfl) ?_
          refine w_cv (r_V (As := [.int (nI (3)), .int (nI (i_9)), .int (nI (gN (mRefL (mR2 u.2.2 t) t i_9) 56 (0) (t))), .int (nI (t))]) (rest := []) hF hB (c_X5_send l env s0 X (wM u (mRefL (mR2 u.2.2 t) t i_9)) (a0) (0) (ha0) (3) (i_9) (gN (mRefL (mR2 u.2.2 t) t i_9) 56 (0) (t)) (t) hM hV_12 hNm_13 (by show gN (mRefL (mR2 u.2.2 t) t i_9) 72 0 0 < 2400; have h1 := mRefL_72 (mR2 u.2.2 t) t i_9; rw [mR2_f _ _ (by decide)] at h1; omega) (by decide) (by omega) (hV_12.site _) ht) cv_X5_send tw_4_26 ⟨rfl, rfl, by decide, by decide⟩ (hB.recv ha0 (cn_20 env (wM u (mRefL (mR2 u.2.2 t) t i_9)) (0)) rfl) rfl hl.1 rfl (lv_room (by decide)) dX5_refused_67 ⟨Nat.le_of_ble_eq_true rfl, Nat.le_of_ble_eq_true rfl⟩) hB (fun u_24 H locs hq_23 hB => ?_)
          obtain rfl := hq_23
          replace hB : Bd env s0 X (wM u (mSend ((mRefL (mR2 u.2.2 t) t i_9)) (3) (i_9) (gN (mRefL (mR2 u.2.2 t) t i_9) 56 (0) (t)) (t))) s H locs := hB
          have hV_25 : MV (mSend ((mRefL (mR2 u.2.2 t) t i_9)) (3) (i_9) (gN (mRefL (mR2 u.2.2 t) t i_9) 56 (0) (t)) (t)) := mSend_V hV_12 (by omega) (hV_12.site _) ht (by show gN (mRefL (mR2 u.2.2 t) t i_9) 72 0 0 < 2400; have h1 := mRefL_72 (mR2 u.2.2 t) t i_9; rw [mR2_f _ _ (by decide)] at h1; omega)
          have hNm_26 : Nb (mSend ((mRefL (mR2 u.2.2 t) t i_9)) (3) (i_9) (gN (mRefL (mR2 u.2.2 t) t i_9) 56 (0) (t)) (t)) := mSend_Nb hNm_13 (by decide) (by omega) (hV_12.site _) ht (by show gN (mRefL (mR2 u.2.2 t) t i_9) 72 0 0 < 2400; have h1 := mRefL_72 (mR2 u.2.2 t) t i_9; rw [mR2_f _ _ (by decide)] at h1; omega)
          refine lv_iinc (v := nI (i_9 + 1)) (lv' := [(2, .int (nI (i_9 + 1))), (0, .ref (a0)), (1, .int (nI (t)))]) hx hb dX5_refused_70 hl (k := 2) rfl (nI_add _ _) (by decide) rfl (fun ls hl => ?_)
          refine lv_goto (tgt := 30) hx hb dX5_refused_73 (by decide) ?_
          have em_27 : (mRefL (mR2 u.2.2 t) t (i_9 + 1)) = (mSend ((mRefL (mR2 u.2.2 t) t i_9)) (3) (i_9) (gN (mRefL (mR2 u.2.2 t) t i_9) 56 (0) (t)) (t)) := by rw [mRefL_s, if_pos ⟨c_15, c_20⟩]
          exact ih30 (H, locs, ls) (by omega) ⟨trivial, (by rw [em_27]; exact hB), by exact lv_sub hl [1, 2, 0] rfl⟩

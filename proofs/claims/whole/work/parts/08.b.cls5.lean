set_option maxHeartbeats 4000000 in
set_option maxRecDepth 100000 in
theorem c_X3_put (l : Launch) (env : Ev) (s0 : Nat) (X : va_W) (u : St) (a0 : Nat) (t : Nat) (ha0 : At u 8 (t) a0) (a1 : Nat) (k : Nat) (ha1 : At u 4 (k) a1) (x : Int64) (hI : SI env u) (hNb : Nb u.2.1) (h15 : gN u.2.1 15 t 0 < 1000) : Met l yX3_put [Cond.code yX3_put cX3_put 4 none] { frames := 0, cells := 0, slots := 0, locals := 0 } (va_Pc [.ref (a0), .ref (a1), .long (x)] (Pr env s0 X u)) (va_Qv (fun u' => u' = wC u (cPut u.2.1 (t) (k) (x))) (Po env s0 X) (fun q => s0 ≤ q)) 0 0 (fun q => s0 ≤ q) := by
  refine Met.ofW (cc := cX3_put) (maxL := 4) (ret := none) (by decide) rfl ?_
  intro p e s m args below meth c s₁ B hml hv
  obtain ⟨rfl, hv⟩ := hv
  have hx := B.exec
  have hb := B.bytes
  have hr := B.returns
  have hts : ∀ ww ∈ TT, ww.before #[.ref (a0), .ref (a1), .long (x)] s = true := fun ww hw => hv.2.1 ww hw _
  have hown : s.vm.findClass RX3 = some m.cls := findClass_of_methodNamed B.named
  have hlocks := B.notSynchronized
  have hF : CallFix p m c cX3_put 4 s #[.ref (a0), .ref (a1), .long (x)] TT RX3 := ⟨hx, hb, hml, hown, hts⟩
  have hB := Bd.entry hv
  have hl := lv_entry ([.ref (a0), .ref (a1), .long (x)]) (n := 4) (Nat.le_of_ble_eq_true rfl)
  rw [lg_entry_eq]
  generalize (lg_sl ([.ref (a0), .ref (a1), .long (x)]) ++ List.replicate (4 - (lg_sl ([.ref (a0), .ref (a1), .long (x)])).length) Slot.unset).toArray = ls at hl ⊢
  have hl : lv_has ls 4 [(0, .ref (a0)), (1, .ref (a1)), (2, .long (x))] := hl
  have hk := (hI.th ha1.1).1
  have hn := hI.nth
  refine lv_aload_n hx hb dX3_put_0 rfl (lv_at hl 0 rfl) ?_
  refine w_get (v := .ref (sA u 10 (t))) (fk := 3) hF hB ha0 (cn_8 env u (t)) rfl in_X3 (by decide) tw_1_221 rfl rfl dX3_put_1 ?_
  refine lv_aload_n hx hb dX3_put_4 rfl (lv_at hl 1 rfl) ?_
  refine w_getN (v := .int (nI (k))) (fk := 0) hF hB ha1 (cn_4 env u (k)) rfl in_X2 (by decide) tw_1_127 rfl rfl dX3_put_5 ?_
  refine w_zald (v := .int (b2i (gB u.2.1 10 (t) (k)))) hF hB ⟨(hI.k10 ha0.1), rfl⟩ (cn_10 env u (t)) (by omega) rfl (by decide) dX3_put_8 ?_
  refine w_ifne_b (tgt := 32) hx hb dX3_put_9 (by decide) (fun c_1 => ?_) (fun c_1 => ?_)
  · refine lv_aload_n hx hb dX3_put_32 rfl (lv_at hl 0 rfl) ?_
    refine w_get (v := .ref (sA u 11 (t))) (fk := 4) hF hB ha0 (cn_8 env u (t)) rfl in_X3 (by decide) tw_1_224 rfl rfl dX3_put_33 ?_
    refine lv_aload_n hx hb dX3_put_36 rfl (lv_at hl 1 rfl) ?_
    refine w_getN (v := .int (nI (k))) (fk := 0) hF hB ha1 (cn_4 env u (k)) rfl in_X2 (by decide) tw_1_127 rfl rfl dX3_put_37 ?_
    refine lv_lload_n hx hb dX3_put_40 rfl (lv_at hl 2 rfl) ?_
    refine w_last (x := x) hF hB ⟨(hI.k11 ha0.1), rfl⟩ (wC u (uJ u.2.1 11 (t) (k) (x))) (cn_11 env u (t)) (by omega) (by decide) rfl rfl (cu_J11 env u (t) (k) (x)) dX3_put_41 (fun H locs hB => ?_)
    exact w_vret hF hr hlocks hB (congrArg (wC u) (by unfold cPut cP1; simp [c_1])) dX3_put_42
  · refine lv_aload_n hx hb dX3_put_12 rfl (lv_at hl 0 rfl) ?_
    refine w_get (v := .ref (sA u 10 (t))) (fk := 3) hF hB ha0 (cn_8 env u (t)) rfl in_X3 (by decide) tw_1_221 rfl rfl dX3_put_13 ?_
    refine lv_aload_n hx hb dX3_put_16 rfl (lv_at hl 1 rfl) ?_
    refine w_getN (v := .int (nI (k))) (fk := 0) hF hB ha1 (cn_4 env u (k)) rfl in_X2 (by decide) tw_1_127 rfl rfl dX3_put_17 ?_
    refine lv_iconst (v := nI 1) hx hb dX3_put_20 (by decide) ?_
    refine w_zast (x := b2i (true)) hF hB ⟨(hI.k10 ha0.1), rfl⟩ (wC u (uB u.2.1 10 (t) (k) (true))) (cn_10 env u (t)) (by omega) (by decide) (b2i_vnar _) rfl rfl (cu_B10 env u (t) (k) (true)) dX3_put_21 (fun H locs hB => ?_)
    refine lv_aload_n hx hb dX3_put_22 rfl (lv_at hl 0 rfl) ?_
    refine lv_dup hx hb dX3_put_23 rfl ?_
    refine w_get (v := .int (nI (gN u.2.1 15 (t) (0)))) (fk := 8) hF hB ha0 (cn_8 env (wC u (uB u.2.1 10 (t) (k) (true))) (t)) rfl in_X3 (by decide) tw_1_233 rfl rfl dX3_put_24 ?_
    refine lv_iconst (v := nI 1) hx hb dX3_put_27 (by decide) ?_
    refine w_iadd_n hx hb dX3_put_28 ?_
    refine w_put (fk := 8) (v := .int (nI ((gN u.2.1 15 (t) (0)) + 1))) (ty := .int) hF hB ha0 (wC u (uN (uB u.2.1 10 (t) (k) (true)) 15 (t) (0) ((gN u.2.1 15 (t) (0)) + 1))) (cn_8 env (wC u (uB u.2.1 10 (t) (k) (true))) (t)) rfl in_X3 tyX3 tyX3_ok nmX3 (by decide) tw_1_233 rfl rfl (by decide +kernel) rfl rfl (Nat.le_of_ble_eq_true rfl) rfl rfl (cu_N15 env (wC u (uB u.2.1 10 (t) (k) (true))) (t) ((gN u.2.1 15 (t) (0)) + 1)) dX3_put_29 (fun H locs hB => ?_)
    refine lv_aload_n hx hb dX3_put_32 rfl (lv_at hl 0 rfl) ?_
    refine w_get (v := .ref (sA u 11 (t))) (fk := 4) hF hB ha0 (cn_8 env (wC u (uN (uB u.2.1 10 (t) (k) (true)) 15 (t) (0) ((gN u.2.1 15 (t) (0)) + 1))) (t)) rfl in_X3 (by decide) tw_1_224 rfl rfl dX3_put_33 ?_
    refine lv_aload_n hx hb dX3_put_36 rfl (lv_at hl 1 rfl) ?_
    refine w_getN (v := .int (nI (k))) (fk := 0) hF hB ha1 (cn_4 env (wC u (uN (uB u.2.1 10 (t) (k) (true)) 15 (t) (0) ((gN u.2.1 15 (t) (0)) + 1))) (k)) rfl in_X2 (by decide) tw_1_127 rfl rfl dX3_put_37 ?_
    refine lv_lload_n hx hb dX3_put_40 rfl (lv_at hl 2 rfl) ?_
    refine w_last (x := x) hF hB ⟨(hI.k11 ha0.1), rfl⟩ (wC u (uJ (uN (uB u.2.1 10 (t) (k) (true)) 15 (t) (0) ((gN u.2.1 15 (t) (0)) + 1)) 11 (t) (k) (x))) (cn_11 env (wC u (uN (uB u.2.1 10 (t) (k) (true)) 15 (t) (0) ((gN u.2.1 15 (t) (0)) + 1))) (t)) (by omega) (by decide) rfl rfl (cu_J11 env (wC u (uN (uB u.2.1 10 (t) (k) (true)) 15 (t) (0) ((gN u.2.1 15 (t) (0)) + 1))) (t) (k) (x)) dX3_put_41 (fun H locs hB => ?_)
    exact w_vret hF hr hlocks hB (congrArg (wC u) (by unfold cPut cP1; simp [c_1])) dX3_put_42
set_option maxHeartbeats 4000000 in
set_option maxRecDepth 100000 in
theorem c_X3_addTo (l : Launch) (env : Ev) (s0 : Nat) (X : va_W) (u : St) (a0 : Nat) (t : Nat) (ha0 : At u 8 (t) a0) (xs : Nat) (n : Int32) (hI : SI env u) (hNb : Nb u.2.1) (hx : xs < 96) : Met l yX3_addTo [Cond.code yX3_addTo cX3_addTo 3 none] { frames := 0, cells := 0, slots := 0, locals := 0 } (va_Pc [.ref (a0), .int (nI (xs)), .int (n)] (Pr env s0 X u)) (va_Qv (fun u' => u' = wC u (cAddTo u.2.1 (t) (xs) (n))) (Po env s0 X) (fun q => s0 ≤ q)) 0 0 (fun q => s0 ≤ q) := by
  refine Met.ofW (cc := cX3_addTo) (maxL := 3) (ret := none) (by decide) rfl ?_
  intro p e s m args below meth c s₁ B hml hv
  obtain ⟨rfl, hv⟩ := hv
  have hx := B.exec
  have hb := B.bytes
  have hr := B.returns
  have hts : ∀ ww ∈ TT, ww.before #[.ref (a0), .int (nI (xs)), .int (n)] s = true := fun ww hw => hv.2.1 ww hw _
  have hown : s.vm.findClass RX3 = some m.cls := findClass_of_methodNamed B.named
  have hlocks := B.notSynchronized
  have hF : CallFix p m c cX3_addTo 3 s #[.ref (a0), .int (nI (xs)), .int (n)] TT RX3 := ⟨hx, hb, hml, hown, hts⟩
  have hB := Bd.entry hv
  have hl := lv_entry ([.ref (a0), .int (nI (xs)), .int (n)]) (n := 3) (Nat.le_of_ble_eq_true rfl)
  rw [lg_entry_eq]
  generalize (lg_sl ([.ref (a0), .int (nI (xs)), .int (n)]) ++ List.replicate (3 - (lg_sl ([.ref (a0), .int (nI (xs)), .int (n)])).length) Slot.unset).toArray = ls at hl ⊢
  have hl : lv_has ls 3 [(0, .ref (a0)), (1, .int (nI (xs))), (2, .int (n))] := hl
  refine lv_aload_n hx hb dX3_addTo_0 rfl (lv_at hl 0 rfl) ?_
  refine w_get (v := .ref (sA u 12 (t))) (fk := 5) hF hB ha0 (cn_8 env u (t)) rfl in_X3 (by decide) tw_1_227 rfl rfl dX3_addTo_1 ?_
  refine lv_iload_n hx hb dX3_addTo_4 rfl (lv_at hl 1 rfl) ?_
  refine lv_dup2_11 hx hb dX3_addTo_5 rfl rfl ?_
  refine w_lald (v := .long (gJ u.2.1 12 (t) (xs))) hF hB ⟨(hI.k12 ha0.1), rfl⟩ (cn_12 env u (t)) (by omega) rfl (by decide) dX3_addTo_6 ?_
  refine lv_iload_n hx hb dX3_addTo_7 rfl (lv_at hl 2 rfl) ?_
  refine lv_i2l hx hb dX3_addTo_8 rfl ?_
  refine lv_ladd hx hb dX3_addTo_9 ?_
  refine w_last (x := (gJ u.2.1 12 (t) (xs)) + ((n).toInt64)) hF hB ⟨(hI.k12 ha0.1), rfl⟩ (wC u (uJ u.2.1 12 (t) (xs) ((gJ u.2.1 12 (t) (xs)) + ((n).toInt64)))) (cn_12 env u (t)) (by omega) (by decide) rfl rfl (cu_J12 env u (t) (xs) ((gJ u.2.1 12 (t) (xs)) + ((n).toInt64))) dX3_addTo_10 (fun H locs hB => ?_)
  refine lv_aload_n hx hb dX3_addTo_11 rfl (lv_at hl 0 rfl) ?_
  refine lv_iconst (v := nI 1) hx hb dX3_addTo_12 (by decide) ?_
  refine w_put (fk := 7) (v := .int (b2i (true))) (ty := .boolean) hF hB ha0 (wC u (uB (uJ u.2.1 12 (t) (xs) ((gJ u.2.1 12 (t) (xs)) + ((n).toInt64))) 14 (t) (0) (true))) (cn_8 env (wC u (uJ u.2.1 12 (t) (xs) ((gJ u.2.1 12 (t) (xs)) + ((n).toInt64)))) (t)) rfl in_X3 tyX3 tyX3_ok nmX3 (by decide) tw_1_232 rfl rfl (by decide +kernel) (b2i_nar _) (b2i_fit _) (Nat.le_of_ble_eq_true rfl) rfl rfl (cu_B14 env (wC u (uJ u.2.1 12 (t) (xs) ((gJ u.2.1 12 (t) (xs)) + ((n).toInt64)))) (t) (true)) dX3_addTo_13 (fun H locs hB => ?_)
  exact w_vret hF hr hlocks hB (rfl) dX3_addTo_16
set_option maxHeartbeats 4000000 in
set_option maxRecDepth 100000 in
theorem c_X1_unlock (l : Launch) (env : Ev) (s0 : Nat) (X : va_W) (u : St) (a0 : Nat) (w : Nat) (ha0 : At u 5 (w) a0) (a1 : Nat) (t : Nat) (ha1 : At u 8 (t) a1) (hI : SI env u) (hNb : Nb u.2.1) (hw : w < 4) : Met l yX1_unlock [Cond.code yX1_unlock cX1_unlock 3 none] { frames := 0, cells := 0, slots := 0, locals := 0 } (va_Pc [.ref (a0), .ref (a1)] (Pr env s0 X u)) (va_Qv (fun u' => u' = wC u (cUnlock u.2.1 (w) (t) 12)) (Po env s0 X) (fun q => s0 ≤ q)) 0 0 (fun q => s0 ≤ q) := by
  refine Met.ofW (cc := cX1_unlock) (maxL := 3) (ret := none) (by decide) rfl ?_
  intro p e s m args below meth c s₁ B hml hv
  obtain ⟨rfl, hv⟩ := hv
  have hx := B.exec
  have hb := B.bytes
  have hr := B.returns
  have hts : ∀ ww ∈ TT, ww.before #[.ref (a0), .ref (a1)] s = true := fun ww hw => hv.2.1 ww hw _
  have hown : s.vm.findClass RX1 = some m.cls := findClass_of_methodNamed B.named
  have hlocks := B.notSynchronized
  have hF : CallFix p m c cX1_unlock 3 s #[.ref (a0), .ref (a1)] TT RX1 := ⟨hx, hb, hml, hown, hts⟩
  have hB := Bd.entry hv
  have hl := lv_entry ([.ref (a0), .ref (a1)]) (n := 3) (Nat.le_of_ble_eq_true rfl)
  rw [lg_entry_eq]
  generalize (lg_sl ([.ref (a0), .ref (a1)]) ++ List.replicate (3 - (lg_sl ([.ref (a0), .ref (a1)])).length) Slot.unset).toArray = ls at hl ⊢
  have hl : lv_has ls 3 [(0, .ref (a0)), (1, .ref (a1))] := hl
  refine lv_iconst (v := nI 0) hx hb dX1_unlock_0 (by decide) ?_
  refine lv_istore_n (lv' := [(2, .int (nI (0))), (0, .ref (a0)), (1, .ref (a1))]) hx hb dX1_unlock_1 rfl hl (by decide) rfl (fun ls hl => ?_)
  refine wloopH (σ := Heap × List Loc × Array Slot) (G := fun x => W p l e _ s m _ below meth c x.1 x.2.1 _ _ _ (F0 m 2 x.2.2 [])) (P := fun i_1 x => (True) ∧ Bd env s0 X (wC u (cUnlock u.2.1 w t i_1)) s x.1 x.2.1 ∧ lv_has x.2.2 3 [(0, .ref (a0)), (1, .ref (a1)), (2, .int (nI (i_1)))]) (N := 12) ?_ 0 (_, _, ls) (Nat.zero_le _) ⟨trivial, hB, lv_sub hl [1, 2, 0] rfl⟩
  rintro i_1 ⟨H, locs, ls⟩ hi_2 ⟨hv_3, hB, hl⟩ ih2
  replace hB : Bd env s0 X (wC u (cUnlock u.2.1 w t i_1)) s H locs := hB
  replace hl : lv_has ls 3 [(0, .ref (a0)), (1, .ref (a1)), (2, .int (nI (i_1)))] := hl
  show W p l e _ s m _ below meth c H locs _ _ _ (F0 m 2 ls [])
  have hI_4 : SI env (wC u (cUnlock u.2.1 w t i_1)) := SI.sameN (cUnlock_N _ _ _ _) hI
  have hNb_5 : Nb (cUnlock u.2.1 w t i_1) := Nb.ofN (cUnlock_N _ _ _ _) hNb
  refine lv_iload_n hx hb dX1_unlock_2 rfl (lv_at hl 2 rfl) ?_
  refine lv_bipush (v := nI 12) hx hb dX1_unlock_3 (by decide) ?_
  refine w_icge_n (tgt := 35) (by omega) (by decide) hx hb dX1_unlock_5 (by decide) (fun c_6 => ?_) (fun c_6 => ?_)
  · exact w_vret hF hr hlocks hB (by rw [show i_1 = 12 by omega]) dX1_unlock_35
  · refine lv_aload_n hx hb dX1_unlock_8 rfl (lv_at hl 0 rfl) ?_
    refine w_get (v := .ref (sA u 7 (w))) (fk := 3) hF hB ha0 (cn_5 env (wC u (cUnlock u.2.1 w t i_1)) (w)) rfl in_X1 (by decide) tw_1_69 rfl rfl dX1_unlock_9 ?_
    refine lv_iload_n hx hb dX1_unlock_12 rfl (lv_at hl 2 rfl) ?_
    refine w_iald (v := .int (gI (cUnlock u.2.1 w t i_1) 7 (w) (i_1))) hF hB ⟨(hI_4.k7 (by omega)), rfl⟩ (cn_7 env (wC u (cUnlock u.2.1 w t i_1)) (w)) (by omega) rfl (by decide) dX1_unlock_13 ?_
    refine lv_aload_n hx hb dX1_unlock_14 rfl (lv_at hl 1 rfl) ?_
    refine w_getN (v := .int (nI (t))) (fk := 0) hF hB ha1 (cn_8 env (wC u (cUnlock u.2.1 w t i_1)) (t)) rfl in_X3 (by decide) tw_1_213 rfl rfl dX1_unlock_15 ?_
    refine lv_icmp_ne (tgt := 29) hx hb dX1_unlock_18 (by decide) (fun c_7 => ?_) (fun c_7 => ?_)
    · refine lv_iinc (v := nI (i_1 + 1)) (lv' := [(2, .int (nI (i_1 + 1))), (0, .ref (a0)), (1, .ref (a1))]) hx hb dX1_unlock_29 hl (k := 2) rfl (nI_add _ _) (by decide) rfl (fun ls hl => ?_)
      refine lv_goto (tgt := 2) hx hb dX1_unlock_32 (by decide) ?_
      have em_8 : (cUnlock u.2.1 w t (i_1 + 1)) = (cUnlock u.2.1 w t i_1) := by first | rfl | simp [cUnlock, c_6, c_7]
      exact ih2 (H, locs, ls) (by omega) ⟨trivial, (by rw [em_8]; exact hB), by exact lv_sub hl [1, 2, 0] rfl⟩
    · refine lv_aload_n hx hb dX1_unlock_21 rfl (lv_at hl 0 rfl) ?_
      refine w_get (v := .ref (sA u 7 (w))) (fk := 3) hF hB ha0 (cn_5 env (wC u (cUnlock u.2.1 w t i_1)) (w)) rfl in_X1 (by decide) tw_1_69 rfl rfl dX1_unlock_22 ?_
      refine lv_iload_n hx hb dX1_unlock_25 rfl (lv_at hl 2 rfl) ?_
      refine lv_bipush (v := -4) hx hb dX1_unlock_26 (by decide) ?_
      refine w_iast (x := -4) hF hB ⟨(hI_4.k7 (by omega)), rfl⟩ (wC u (uI (cUnlock u.2.1 w t i_1) 7 (w) (i_1) (-4))) (cn_7 env (wC u (cUnlock u.2.1 w t i_1)) (w)) (by omega) (by decide) rfl rfl (cu_I7 env (wC u (cUnlock u.2.1 w t i_1)) (w) (i_1) (-4)) dX1_unlock_28 (fun H locs hB => ?_)
      refine lv_iinc (v := nI (i_1 + 1)) (lv' := [(2, .int (nI (i_1 + 1))), (0, .ref (a0)), (1, .ref (a1))]) hx hb dX1_unlock_29 hl (k := 2) rfl (nI_add _ _) (by decide) rfl (fun ls hl => ?_)
      refine lv_goto (tgt := 2) hx hb dX1_unlock_32 (by decide) ?_
      have em_9 : (cUnlock u.2.1 w t (i_1 + 1)) = (uI (cUnlock u.2.1 w t i_1) 7 (w) (i_1) (-4)) := by first | rfl | simp [cUnlock, c_6, c_7]
      exact ih2 (H, locs, ls) (by omega) ⟨trivial, (by rw [em_9]; exact hB), by exact lv_sub hl [1, 2, 0] rfl⟩
set_option maxHeartbeats 4000000 in
set_option maxRecDepth 100000 in
theorem c_X4_lockThings (l : Launch) (env : Ev) (s0 : Nat) (X : va_W) (u : St) (a0 : Nat) (_xa0 : Nat) (ha0 : At u 0 (0) a0) (a1 : Nat) (t : Nat) (ha1 : At u 8 (t) a1) (a2 : Nat) (w : Nat) (ha2 : At u 5 (w) a2) (hI : SI env u) (hNb : Nb u.2.1) (hw : w < 4) : Met l yX4_lockThings [Cond.code yX4_lockThings cX4_lockThings 5 none] { frames := 3, cells := 0, slots := 0, locals := 64 } (va_Pc [.ref (a0), .ref (a1), .ref (a2)] (Pr env s0 X u)) (va_Qv (fun u' => u' = wC u (cLock u.2.1 (t) (w) (gN u.2.1 3 0 0))) (Po env s0 X) (fun q => s0 ≤ q)) 0 0 (fun q => s0 ≤ q) := by
  refine Met.ofW (cc := cX4_lockThings) (maxL := 5) (ret := none) (by decide) rfl ?_
  intro p e s m args below meth c s₁ B hml hv
  obtain ⟨rfl, hv⟩ := hv
  have hx := B.exec
  have hb := B.bytes
  have hr := B.returns
  have hts : ∀ ww ∈ TT, ww.before #[.ref (a0), .ref (a1), .ref (a2)] s = true := fun ww hw => hv.2.1 ww hw _
  have hown : s.vm.findClass RX4 = some m.cls := findClass_of_methodNamed B.named
  have hlocks := B.notSynchronized
  have hF : CallFix p m c cX4_lockThings 5 s #[.ref (a0), .ref (a1), .ref (a2)] TT RX4 := ⟨hx, hb, hml, hown, hts⟩
  have hB := Bd.entry hv
  have hl := lv_entry ([.ref (a0), .ref (a1), .ref (a2)]) (n := 5) (Nat.le_of_ble_eq_true rfl)
  rw [lg_entry_eq]
  generalize (lg_sl ([.ref (a0), .ref (a1), .ref (a2)]) ++ List.replicate (5 - (lg_sl ([.ref (a0), .ref (a1), .ref (a2)])).length) Slot.unset).toArray = ls at hl ⊢
  have hl : lv_has ls 5 [(0, .ref (a0)), (1, .ref (a1)), (2, .ref (a2))] := hl
  have hn := hI.nth
  refine lv_iconst (v := nI 0) hx hb dX4_lockThings_0 (by decide) ?_
  refine lv_istore_n (lv' := [(3, .int (nI (0))), (0, .ref (a0)), (1, .ref (a1)), (2, .ref (a2))]) hx hb dX4_lockThings_1 rfl hl (by decide) rfl (fun ls hl => ?_)
  refine wloopH (σ := Heap × List Loc × Array Slot) (G := fun x => W p l e _ s m _ below meth c x.1 x.2.1 _ _ _ (F0 m 2 x.2.2 [])) (P := fun i_1 x => (True) ∧ Bd env s0 X (wC u (cLock u.2.1 t w i_1)) s x.1 x.2.1 ∧ lv_has x.2.2 5 [(0, .ref (a0)), (1, .ref (a1)), (2, .ref (a2)), (3, .int (nI (i_1)))]) (N := gN u.2.1 3 0 0) ?_ 0 (_, _, ls) (Nat.zero_le _) ⟨trivial, hB, lv_sub hl [1, 2, 3, 0] rfl⟩
  rintro i_1 ⟨H, locs, ls⟩ hi_2 ⟨hv_3, hB, hl⟩ ih2
  replace hB : Bd env s0 X (wC u (cLock u.2.1 t w i_1)) s H locs := hB
  replace hl : lv_has ls 5 [(0, .ref (a0)), (1, .ref (a1)), (2, .ref (a2)), (3, .int (nI (i_1)))] := hl
  show W p l e _ s m _ below meth c H locs _ _ _ (F0 m 2 ls [])
  have := hNb 3 0 0
  have hI_4 : SI env (wC u (cLock u.2.1 t w i_1)) := SI.sameN (cLock_N _ _ _ _) hI
  have hNb_5 : Nb (cLock u.2.1 t w i_1) := Nb.ofN (cLock_N _ _ _ _) hNb
  refine lv_iload_n hx hb dX4_lockThings_2 rfl (lv_at hl 3 rfl) ?_
  refine lv_aload_n hx hb dX4_lockThings_3 rfl (lv_at hl 0 rfl) ?_
  refine w_get (v := .ref (sA u 2 (0))) (fk := 3) hF hB ha0 (cn_0 env (wC u (cLock u.2.1 t w i_1)) (0)) rfl in_X4 (by decide) tw_1_84 rfl rfl dX4_lockThings_4 ?_
  refine w_ci (r_V (As := []) (rest := [.int (nI (i_1))]) hF hB (c_Jx4a65c_size_8abf5 l env s0 X (wC u (cLock u.2.1 t w i_1)) (sA u 2 (0)) (0) (⟨(hI_4.k2 (by decide)), rfl⟩) ) cv_Jx4a65c_size_8abf5 tw_1_116 ⟨rfl, rfl, by decide, by decide⟩ (hB.recv ⟨(hI_4.k2 (by decide)), rfl⟩ (cn_2 env (wC u (cLock u.2.1 t w i_1)) (0)) rfl) rfl hl.1 rfl (lv_room (Nat.le_of_ble_eq_true rfl)) dX4_lockThings_7 ⟨Nat.le_of_ble_eq_true rfl, Nat.le_of_ble_eq_true rfl⟩) hB (fun r_6 u_8 H locs hq_7 hB => ?_)
  obtain ⟨rfl, rfl⟩ := hq_7
  show W p l e _ s m _ below meth c H locs _ _ _ (F0 m _ ls [.int (nI (gN (cLock u.2.1 t w i_1) 3 (0) 0)), .int (nI (i_1))])
  refine w_icge_n (tgt := 56) (by omega) (by have := hNb_5 3 (0) 0; omega) hx hb dX4_lockThings_10 (by decide) (fun c_9 => ?_) (fun c_9 => ?_)
  · rw [cLock_N] at c_9
    exact w_vret hF hr hlocks hB (by rw [show i_1 = gN u.2.1 3 0 0 by omega]) dX4_lockThings_56
  · rw [cLock_N] at c_9
    refine lv_aload_n hx hb dX4_lockThings_13 rfl (lv_at hl 0 rfl) ?_
    refine w_get (v := .ref (sA u 2 (0))) (fk := 3) hF hB ha0 (cn_0 env (wC u (cLock u.2.1 t w i_1)) (0)) rfl in_X4 (by decide) tw_1_84 rfl rfl dX4_lockThings_14 ?_
    refine lv_iload_n hx hb dX4_lockThings_17 rfl (lv_at hl 3 rfl) ?_
    refine w_cq (r_V (As := [.int (nI (i_1))]) (rest := []) hF hB (c_Jx4a65c_get_915e3 l env s0 X (wC u (cLock u.2.1 t w i_1)) (sA u 2 (0)) (0) (⟨(hI_4.k2 (by decide)), rfl⟩) (i_1) hNb_5 (hI_4.get (by decide) (show i_1 < gN (cLock u.2.1 t w i_1) 3 0 0 by rw [cLock_N]; exact c_9)).1 (show i_1 < gN (cLock u.2.1 t w i_1) 3 0 0 by rw [cLock_N]; exact c_9) (hI_4.get (by decide) (show i_1 < gN (cLock u.2.1 t w i_1) 3 0 0 by rw [cLock_N]; exact c_9)).2.1 (hI_4.get (by decide) (show i_1 < gN (cLock u.2.1 t w i_1) 3 0 0 by rw [cLock_N]; exact c_9)).2.2) cv_Jx4a65c_get_915e3 tw_2_42 ⟨rfl, rfl, by decide, by decide⟩ (hB.recv ⟨(hI_4.k2 (by decide)), rfl⟩ (cn_2 env (wC u (cLock u.2.1 t w i_1)) (0)) rfl) rfl hl.1 rfl (lv_room (by decide)) dX4_lockThings_18 ⟨Nat.le_of_ble_eq_true rfl, Nat.le_of_ble_eq_true rfl⟩) hB (fun r_10 u_12 H locs hq_11 hB => ?_)
    obtain ⟨rfl, rfl⟩ := hq_11
    show W p l e _ s m _ below meth c H locs _ _ _ (F0 m _ ls [va_rf (sE u (sM u 2 (0)) (i_1))])
    rw [show sE u (sM u 2 (0)) (i_1) = some (sA u 4 (i_1)) from hI_4.e0 (show i_1 < gN (cLock u.2.1 t w i_1) 3 0 0 by rw [cLock_N]; exact c_9)]
    show W p l e _ s m _ below meth c H locs _ _ _ (F0 m _ ls [.ref (sA u 4 (i_1))])
    refine w_cast hF hB tw_1_120 tw_4_105 (hB.recv ⟨(hI_4.k4 (show i_1 < gN (cLock u.2.1 t w i_1) 3 0 0 by rw [cLock_N]; exact c_9)), rfl⟩ (cn_4 env (wC u (cLock u.2.1 t w i_1)) (i_1)) rfl) dX4_lockThings_21 ?_
    refine lv_astore (lv' := [(4, .ref (sA u 4 (i_1))), (0, .ref (a0)), (1, .ref (a1)), (2, .ref (a2)), (3, .int (nI (i_1)))]) hx hb dX4_lockThings_24 hl (by decide) rfl (fun ls hl => ?_)
    refine lv_aload_n hx hb dX4_lockThings_26 rfl (lv_at hl 2 rfl) ?_
    refine lv_aload hx hb dX4_lockThings_27 (lv_at hl 0 rfl) ?_
    refine lv_aload_n hx hb dX4_lockThings_29 rfl (lv_at hl 3 rfl) ?_
    refine w_ci (r_S (As := [.ref (a1), .ref (sA u 4 (i_1)), .ref (a2)]) (rest := []) hF hB (c_X4_isPlainOf l env s0 X (wC u (cLock u.2.1 t w i_1)) (a1) (t) (ha1) (sA u 4 (i_1)) (i_1) (⟨(hI_4.k4 (show i_1 < gN (cLock u.2.1 t w i_1) 3 0 0 by rw [cLock_N]; exact c_9)), rfl⟩) (a2) (w) (ha2) (show SI env (wC u (cLock u.2.1 t w i_1)) from hI_4) hNb_5) cs_X4_isPlainOf tw_2_122 ⟨rfl, rfl, by decide, by decide⟩ rfl hl.1 rfl (lv_room (by decide)) dX4_lockThings_30 ⟨Nat.le_of_ble_eq_true rfl, Nat.le_of_ble_eq_true rfl⟩) hB (fun r_13 u_15 H locs hq_14 hB => ?_)
    obtain ⟨rfl, rfl⟩ := hq_14
    show W p l e _ s m _ below meth c H locs _ _ _ (F0 m _ ls [.int (b2i (cPlQ (cLock u.2.1 t w i_1) (t) (w) (i_1)))])
    refine w_ifeq_b (tgt := 50) hx hb dX4_lockThings_33 (by decide) (fun c_16 => ?_) (fun c_16 => ?_)
    · refine lv_iinc (v := nI (i_1 + 1)) (lv' := [(3, .int (nI (i_1 + 1))), (4, .ref (sA u 4 (i_1))), (0, .ref (a0)), (1, .ref (a1)), (2, .ref (a2))]) hx hb dX4_lockThings_50 hl (k := 4) rfl (nI_add _ _) (by decide) rfl (fun ls hl => ?_)
      refine lv_goto (tgt := 2) hx hb dX4_lockThings_53 (by decide) ?_
      have em_17 : (cLock u.2.1 t w (i_1 + 1)) = (cLock u.2.1 t w i_1) := by first | rfl | simp [cLock, c_9, c_16]
      exact ih2 (H, locs, ls) (by omega) ⟨trivial, (by rw [em_17]; exact hB), by exact lv_sub hl [2, 3, 4, 0] rfl⟩
    · refine lv_aload_n hx hb dX4_lockThings_36 rfl (lv_at hl 3 rfl) ?_
      refine w_getN (v := .ref (sA u 7 (w))) (fk := 3) hF hB ha2 (cn_5 env (wC u (cLock u.2.1 t w i_1)) (w)) rfl in_X1 (by decide) tw_1_70 rfl rfl dX4_lockThings_37 ?_
      refine lv_aload hx hb dX4_lockThings_40 (lv_at hl 0 rfl) ?_
      refine w_getN (v := .int (nI (i_1))) (fk := 0) hF hB ⟨(hI_4.k4 (show i_1 < gN (cLock u.2.1 t w i_1) 3 0 0 by rw [cLock_N]; exact c_9)), rfl⟩ (cn_4 env (wC u (cLock u.2.1 t w i_1)) (i_1)) rfl in_X2 (by decide) tw_1_129 rfl rfl dX4_lockThings_42 ?_
      refine lv_aload_n hx hb dX4_lockThings_45 rfl (lv_at hl 2 rfl) ?_
      refine w_getN (v := .int (nI (t))) (fk := 0) hF hB ha1 (cn_8 env (wC u (cLock u.2.1 t w i_1)) (t)) rfl in_X3 (by decide) tw_1_214 rfl rfl dX4_lockThings_46 ?_
      refine w_iast (x := nI t) hF hB ⟨(hI_4.k7 (by omega)), rfl⟩ (wC u (uI (cLock u.2.1 t w i_1) 7 (w) (i_1) (nI t))) (cn_7 env (wC u (cLock u.2.1 t w i_1)) (w)) (by omega) (by decide) rfl rfl (cu_I7 env (wC u (cLock u.2.1 t w i_1)) (w) (i_1) (nI t)) dX4_lockThings_49 (fun H locs hB => ?_)
      refine lv_iinc (v := nI (i_1 + 1)) (lv' := [(3, .int (nI (i_1 + 1))), (4, .ref (sA u 4 (i_1))), (0, .ref (a0)), (1, .ref (a1)), (2, .ref (a2))]) hx hb dX4_lockThings_50 hl (k := 4) rfl (nI_add _ _) (by decide) rfl (fun ls hl => ?_)
      refine lv_goto (tgt := 2) hx hb dX4_lockThings_53 (by decide) ?_
      have em_18 : (cLock u.2.1 t w (i_1 + 1)) = (uI (cLock u.2.1 t w i_1) 7 (w) (i_1) (nI t)) := by first | rfl | simp [cLock, c_9, c_16]
      exact ih2 (H, locs, ls) (by omega) ⟨trivial, (by rw [em_18]; exact hB), by exact lv_sub hl [2, 3, 4, 0] rfl⟩
set_option maxHeartbeats 4000000 in
set_option maxRecDepth 100000 in
theorem c_X4_abort (l : Launch) (env : Ev) (s0 : Nat) (X : va_W) (u : St) (a0 : Nat) (_xa0 : Nat) (ha0 : At u 0 (0) a0) (v1 : Int32) (hI : SI env u) (hNb : Nb u.2.1) : Met l yX4_abort [Cond.code yX4_abort cX4_abort 3 (some .int)] { frames := 4, cells := 0, slots := 0, locals := 85 } (va_Pc [.ref (a0), .int (v1)] (Pr env s0 X u)) (va_Qi (fun r u' => u' = wC u ((cabort u.2.1 v1).2) ∧ r = (cabort u.2.1 v1).1) (Po env s0 X) (fun q => s0 ≤ q)) 0 0 (fun q => s0 ≤ q) := by
  refine Met.ofW (cc := cX4_abort) (maxL := 3) (ret := (some .int)) (by decide) rfl ?_
  intro p e s m args below meth c s₁ B hml hv
  obtain ⟨rfl, hv⟩ := hv
  have hx := B.exec
  have hb := B.bytes
  have hr := B.returns
  have hts : ∀ ww ∈ TT, ww.before #[.ref (a0), .int (v1)] s = true := fun ww hw => hv.2.1 ww hw _
  have hown : s.vm.findClass RX4 = some m.cls := findClass_of_methodNamed B.named
  have hlocks := B.notSynchronized
  have hF : CallFix p m c cX4_abort 3 s #[.ref (a0), .int (v1)] TT RX4 := ⟨hx, hb, hml, hown, hts⟩
  have hB := Bd.entry hv
  have hl := lv_entry ([.ref (a0), .int (v1)]) (n := 3) (Nat.le_of_ble_eq_true rfl)
  rw [lg_entry_eq]
  generalize (lg_sl ([.ref (a0), .int (v1)]) ++ List.replicate (3 - (lg_sl ([.ref (a0), .int (v1)])).length) Slot.unset).toArray = ls at hl ⊢
  have hl : lv_has ls 3 [(0, .ref (a0)), (1, .int (v1))] := hl
  have hn4 := hI.nst
  have hn1 := hI.nth
  have hn2 := hI.ntx
  refine lv_aload_n hx hb dX4_abort_0 rfl (lv_at hl 0 rfl) ?_
  refine lv_iload_n hx hb dX4_abort_1 rfl (lv_at hl 1 rfl) ?_
  refine w_cq (r_V (As := [.int (v1)]) (rest := []) hF hB (c_X4_findTransaction l env s0 X u (a0) (0) (ha0) (v1) hI hNb) cv_X4_findTransaction tw_2_38 ⟨rfl, rfl, by decide, by decide⟩ (hB.recv ha0 (cn_0 env u (0)) rfl) rfl hl.1 rfl (lv_room (by decide)) dX4_abort_2 ⟨Nat.le_of_ble_eq_true rfl, Nat.le_of_ble_eq_true rfl⟩) hB (fun r_1 u_3 H locs hq_2 hB => ?_)
  obtain ⟨rfl, rfl⟩ := hq_2
  rcases hj_5 : ix v1 (gN u.2.1 3 1 0) with _ | j_4
  · show W p l e _ s m _ below meth c H locs _ _ _ (F0 m _ ls [.null])
    refine lv_astore_nN (lv' := [(2, .null), (0, .ref (a0)), (1, .int (v1))]) hx hb dX4_abort_5 rfl hl (by decide) rfl (fun ls hl => ?_)
    refine lv_aload_nN hx hb dX4_abort_6 rfl (lv_at hl 0 rfl) ?_
    refine lv_ifnonnullN hx hb dX4_abort_7 ?_
    refine lv_iconst (v := -1) hx hb dX4_abort_10 (by decide) ?_
    exact w_iret (v := -1) hF hr hlocks hB (⟨by first | (simp [cabort, hj_5]; done) | (simp [cabort, hj_5]; rfl) | (simp [cabort, hj_5] <;> omega), by first | (simp [cabort, hj_5]; done) | (simp [cabort, hj_5]; rfl) | (simp [cabort, hj_5] <;> omega)⟩) dX4_abort_11
  · obtain ⟨hjl_6, rfl⟩ := ix_some (by have := hNb 3 1 0; omega) hj_5
    show W p l e _ s m _ below meth c H locs _ _ _ (F0 m _ ls [.ref (sA u 8 (j_4))])
    refine lv_astore_n (lv' := [(2, .ref (sA u 8 (j_4))), (0, .ref (a0)), (1, .int (nI (j_4)))]) hx hb dX4_abort_5 rfl hl (by decide) rfl (fun ls hl => ?_)
    refine lv_aload_n hx hb dX4_abort_6 rfl (lv_at hl 0 rfl) ?_
    refine lv_ifnonnull (tgt := 12) hx hb dX4_abort_7 (by decide) ?_
    refine lv_aload_n hx hb dX4_abort_12 rfl (lv_at hl 0 rfl) ?_
    refine w_getN (v := .int (nI (gN u.2.1 16 (j_4) (0)))) (fk := 9) hF hB ⟨(hI.k8 hjl_6), rfl⟩ (cn_8 env u (j_4)) rfl in_X3 (by decide) tw_1_236 rfl rfl dX4_abort_13 ?_
    refine w_ifeq_n (tgt := 22) (by have := hNb 16 (j_4) (0); omega) hx hb dX4_abort_16 (by decide) (fun c_7 => ?_) (fun c_7 => ?_)
    · refine lv_aload_n hx hb dX4_abort_22 rfl (lv_at hl 0 rfl) ?_
      refine lv_iconst (v := nI 3) hx hb dX4_abort_23 (by decide) ?_
      refine w_putN (fk := 9) (v := .int (nI (3))) (ty := .int) hF hB ⟨(hI.k8 hjl_6), rfl⟩ (wC u (uN u.2.1 16 (j_4) (0) (3))) (cn_8 env u (j_4)) rfl in_X3 tyX3 tyX3_ok nmX3 (by decide) tw_1_236 rfl rfl (by decide +kernel) rfl rfl (Nat.le_of_ble_eq_true rfl) rfl rfl (cu_N16 env u (j_4) (3)) dX4_abort_24 (fun H locs hB => ?_)
      refine lv_iconst (v := nI 1) hx hb dX4_abort_27 (by decide) ?_
      exact w_iret (v := nI 1) hF hr hlocks hB (⟨by first | (simp [cabort, hj_5, c_7]; done) | (simp [cabort, hj_5, c_7]; rfl) | (simp [cabort, hj_5, c_7] <;> omega), by first | (simp [cabort, hj_5, c_7]; done) | (simp [cabort, hj_5, c_7]; rfl) | (simp [cabort, hj_5, c_7] <;> omega)⟩) dX4_abort_28
    · refine lv_bipush (v := -2) hx hb dX4_abort_19 (by decide) ?_
      exact w_iret (v := -2) hF hr hlocks hB (⟨by first | (simp [cabort, hj_5, c_7]; done) | (simp [cabort, hj_5, c_7]; rfl) | (simp [cabort, hj_5, c_7] <;> omega), by first | (simp [cabort, hj_5, c_7]; done) | (simp [cabort, hj_5, c_7]; rfl) | (simp [cabort, hj_5, c_7] <;> omega)⟩) dX4_abort_21
set_option maxHeartbeats 4000000 in
set_option maxRecDepth 100000 in
theorem c_X4_add (l : Launch) (env : Ev) (s0 : Nat) (X : va_W) (u : St) (a0 : Nat) (_xa0 : Nat) (ha0 : At u 0 (0) a0) (v1 : Int32) (v2 : Int32) (v3 : Int32) (x : Int32) (hI : SI env u) (hNb : Nb u.2.1) : Met l yX4_add [Cond.code yX4_add cX4_add 7 (some .int)] { frames := 5, cells := 0, slots := 0, locals := 107 } (va_Pc [.ref (a0), .int (v1), .int (v2), .int (v3), .int (x)] (Pr env s0 X u)) (va_Qi (fun r u' => u' = wC u ((cadd u.2.1 v1 v2 v3 x).2) ∧ r = (cadd u.2.1 v1 v2 v3 x).1) (Po env s0 X) (fun q => s0 ≤ q)) 0 0 (fun q => s0 ≤ q) := by
  refine Met.ofW (cc := cX4_add) (maxL := 7) (ret := (some .int)) (by decide) rfl ?_
  intro p e s m args below meth c s₁ B hml hv
  obtain ⟨rfl, hv⟩ := hv
  have hx := B.exec
  have hb := B.bytes
  have hr := B.returns
  have hts : ∀ ww ∈ TT, ww.before #[.ref (a0), .int (v1), .int (v2), .int (v3), .int (x)] s = true := fun ww hw => hv.2.1 ww hw _
  have hown : s.vm.findClass RX4 = some m.cls := findClass_of_methodNamed B.named
  have hlocks := B.notSynchronized
  have hF : CallFix p m c cX4_add 7 s #[.ref (a0), .int (v1), .int (v2), .int (v3), .int (x)] TT RX4 := ⟨hx, hb, hml, hown, hts⟩
  have hB := Bd.entry hv
  have hl := lv_entry ([.ref (a0), .int (v1), .int (v2), .int (v3), .int (x)]) (n := 7) (Nat.le_of_ble_eq_true rfl)
  rw [lg_entry_eq]
  generalize (lg_sl ([.ref (a0), .int (v1), .int (v2), .int (v3), .int (x)]) ++ List.replicate (7 - (lg_sl ([.ref (a0), .int (v1), .int (v2), .int (v3), .int (x)])).length) Slot.unset).toArray = ls at hl ⊢
  have hl : lv_has ls 7 [(0, .ref (a0)), (1, .int (v1)), (2, .int (v2)), (3, .int (v3)), (4, .int (x))] := hl
  have hn4 := hI.nst
  have hn1 := hI.nth
  have hn2 := hI.ntx
  refine lv_aload_n hx hb dX4_add_0 rfl (lv_at hl 0 rfl) ?_
  refine lv_iload_n hx hb dX4_add_1 rfl (lv_at hl 1 rfl) ?_
  refine w_cq (r_V (As := [.int (v1)]) (rest := []) hF hB (c_X4_findTransaction l env s0 X u (a0) (0) (ha0) (v1) hI hNb) cv_X4_findTransaction tw_2_38 ⟨rfl, rfl, by decide, by decide⟩ (hB.recv ha0 (cn_0 env u (0)) rfl) rfl hl.1 rfl (lv_room (by decide)) dX4_add_2 ⟨Nat.le_of_ble_eq_true rfl, Nat.le_of_ble_eq_true rfl⟩) hB (fun r_1 u_3 H locs hq_2 hB => ?_)
  obtain ⟨rfl, rfl⟩ := hq_2
  rcases hj_5 : ix v1 (gN u.2.1 3 1 0) with _ | j_4
  · show W p l e _ s m _ below meth c H locs _ _ _ (F0 m _ ls [.null])
    refine lv_astoreN (lv' := [(5, .null), (0, .ref (a0)), (1, .int (v1)), (2, .int (v2)), (3, .int (v3)), (4, .int (x))]) hx hb dX4_add_5 hl (by decide) rfl (fun ls hl => ?_)
    refine lv_aload_n hx hb dX4_add_7 rfl (lv_at hl 1 rfl) ?_
    refine lv_iload_n hx hb dX4_add_8 rfl (lv_at hl 3 rfl) ?_
    refine w_cq (r_V (As := [.int (v2)]) (rest := []) hF hB (c_X4_findSet l env s0 X u (a0) (0) (ha0) (v2) hI hNb) cv_X4_findSet tw_2_83 ⟨rfl, rfl, by decide, by decide⟩ (hB.recv ha0 (cn_0 env u (0)) rfl) rfl hl.1 rfl (lv_room (by decide)) dX4_add_9 ⟨Nat.le_of_ble_eq_true rfl, Nat.le_of_ble_eq_true rfl⟩) hB (fun r_7 u_9 H locs hq_8 hB => ?_)
    obtain ⟨rfl, rfl⟩ := hq_8
    rcases hj_11 : ix v2 (gN u.2.1 3 0 0) with _ | j_10
    · rw [show cSet u v2 = none from by simp [cSet, hj_11]]
      show W p l e _ s m _ below meth c H locs _ _ _ (F0 m _ ls [.null])
      refine lv_astoreN (lv' := [(6, .null), (5, .null), (0, .ref (a0)), (1, .int (v1)), (2, .int (v2)), (3, .int (v3)), (4, .int (x))]) hx hb dX4_add_12 hl (by decide) rfl (fun ls hl => ?_)
      refine lv_aloadN hx hb dX4_add_14 (lv_at hl 1 rfl) ?_
      refine lv_ifnullN (tgt := 31) hx hb dX4_add_16 (by decide) ?_
      refine lv_iconst (v := -1) hx hb dX4_add_31 (by decide) ?_
      exact w_iret (v := -1) hF hr hlocks hB (⟨by first | (simp [cadd, hj_5, hj_11]; done) | (simp [cadd, hj_5, hj_11]; rfl) | (simp [cadd, hj_5, hj_11] <;> omega), by first | (simp [cadd, hj_5, hj_11]; done) | (simp [cadd, hj_5, hj_11]; rfl) | (simp [cadd, hj_5, hj_11] <;> omega)⟩) dX4_add_32
    · obtain ⟨hjl_12, rfl⟩ := ix_some (by have := hNb 3 0 0; omega) hj_11
      rcases hs_13 : gB u.2.1 4 j_10 0 with _ | _
      · rw [show cSet u (nI j_10) = none from by simp [cSet, hj_11, hs_13]]
        show W p l e _ s m _ below meth c H locs _ _ _ (F0 m _ ls [.null])
        refine lv_astoreN (lv' := [(6, .null), (5, .null), (0, .ref (a0)), (1, .int (v1)), (2, .int (nI (j_10))), (3, .int (v3)), (4, .int (x))]) hx hb dX4_add_12 hl (by decide) rfl (fun ls hl => ?_)
        refine lv_aloadN hx hb dX4_add_14 (lv_at hl 1 rfl) ?_
        refine lv_ifnullN (tgt := 31) hx hb dX4_add_16 (by decide) ?_
        refine lv_iconst (v := -1) hx hb dX4_add_31 (by decide) ?_
        exact w_iret (v := -1) hF hr hlocks hB (⟨by first | (simp [cadd, hj_5, hj_11, hs_13]; done) | (simp [cadd, hj_5, hj_11, hs_13]; rfl) | (simp [cadd, hj_5, hj_11, hs_13] <;> omega), by first | (simp [cadd, hj_5, hj_11, hs_13]; done) | (simp [cadd, hj_5, hj_11, hs_13]; rfl) | (simp [cadd, hj_5, hj_11, hs_13] <;> omega)⟩) dX4_add_32
      · rw [show cSet u (nI j_10) = some (sA u 4 j_10) from by simp [cSet, hj_11, hs_13]]
        show W p l e _ s m _ below meth c H locs _ _ _ (F0 m _ ls [.ref (sA u 4 (j_10))])
        refine lv_astore (lv' := [(6, .ref (sA u 4 (j_10))), (5, .null), (0, .ref (a0)), (1, .int (v1)), (2, .int (nI (j_10))), (3, .int (v3)), (4, .int (x))]) hx hb dX4_add_12 hl (by decide) rfl (fun ls hl => ?_)
        refine lv_aloadN hx hb dX4_add_14 (lv_at hl 1 rfl) ?_
        refine lv_ifnullN (tgt := 31) hx hb dX4_add_16 (by decide) ?_
        refine lv_iconst (v := -1) hx hb dX4_add_31 (by decide) ?_
        exact w_iret (v := -1) hF hr hlocks hB (⟨by first | (simp [cadd, hj_5, hj_11, hs_13]; done) | (simp [cadd, hj_5, hj_11, hs_13]; rfl) | (simp [cadd, hj_5, hj_11, hs_13] <;> omega), by first | (simp [cadd, hj_5, hj_11, hs_13]; done) | (simp [cadd, hj_5, hj_11, hs_13]; rfl) | (simp [cadd, hj_5, hj_11, hs_13] <;> omega)⟩) dX4_add_32
  · obtain ⟨hjl_6, rfl⟩ := ix_some (by have := hNb 3 1 0; omega) hj_5
    show W p l e _ s m _ below meth c H locs _ _ _ (F0 m _ ls [.ref (sA u 8 (j_4))])
    refine lv_astore (lv' := [(5, .ref (sA u 8 (j_4))), (0, .ref (a0)), (1, .int (nI (j_4))), (2, .int (v2)), (3, .int (v3)), (4, .int (x))]) hx hb dX4_add_5 hl (by decide) rfl (fun ls hl => ?_)
    refine lv_aload_n hx hb dX4_add_7 rfl (lv_at hl 1 rfl) ?_
    refine lv_iload_n hx hb dX4_add_8 rfl (lv_at hl 3 rfl) ?_
    refine w_cq (r_V (As := [.int (v2)]) (rest := []) hF hB (c_X4_findSet l env s0 X u (a0) (0) (ha0) (v2) hI hNb) cv_X4_findSet tw_2_83 ⟨rfl, rfl, by decide, by decide⟩ (hB.recv ha0 (cn_0 env u (0)) rfl) rfl hl.1 rfl (lv_room (by decide)) dX4_add_9 ⟨Nat.le_of_ble_eq_true rfl, Nat.le_of_ble_eq_true rfl⟩) hB (fun r_14 u_16 H locs hq_15 hB => ?_)
    obtain ⟨rfl, rfl⟩ := hq_15
    rcases hj_18 : ix v2 (gN u.2.1 3 0 0) with _ | j_17
    · rw [show cSet u v2 = none from by simp [cSet, hj_18]]
      show W p l e _ s m _ below meth c H locs _ _ _ (F0 m _ ls [.null])
      refine lv_astoreN (lv' := [(6, .null), (5, .ref (sA u 8 (j_4))), (0, .ref (a0)), (1, .int (nI (j_4))), (2, .int (v2)), (3, .int (v3)), (4, .int (x))]) hx hb dX4_add_12 hl (by decide) rfl (fun ls hl => ?_)
      refine lv_aload hx hb dX4_add_14 (lv_at hl 1 rfl) ?_
      refine lv_ifnull hx hb dX4_add_16 ?_
      refine lv_aloadN hx hb dX4_add_19 (lv_at hl 0 rfl) ?_
      refine lv_ifnullN (tgt := 31) hx hb dX4_add_21 (by decide) ?_
      refine lv_iconst (v := -1) hx hb dX4_add_31 (by decide) ?_
      exact w_iret (v := -1) hF hr hlocks hB (⟨by first | (simp [cadd, hj_5, hj_18]; done) | (simp [cadd, hj_5, hj_18]; rfl) | (simp [cadd, hj_5, hj_18] <;> omega), by first | (simp [cadd, hj_5, hj_18]; done) | (simp [cadd, hj_5, hj_18]; rfl) | (simp [cadd, hj_5, hj_18] <;> omega)⟩) dX4_add_32
    · obtain ⟨hjl_19, rfl⟩ := ix_some (by have := hNb 3 0 0; omega) hj_18
      rcases hs_20 : gB u.2.1 4 j_17 0 with _ | _
      · rw [show cSet u (nI j_17) = none from by simp [cSet, hj_18, hs_20]]
        show W p l e _ s m _ below meth c H locs _ _ _ (F0 m _ ls [.null])
        refine lv_astoreN (lv' := [(6, .null), (5, .ref (sA u 8 (j_4))), (0, .ref (a0)), (1, .int (nI (j_4))), (2, .int (nI (j_17))), (3, .int (v3)), (4, .int (x))]) hx hb dX4_add_12 hl (by decide) rfl (fun ls hl => ?_)
        refine lv_aload hx hb dX4_add_14 (lv_at hl 1 rfl) ?_
        refine lv_ifnull hx hb dX4_add_16 ?_
        refine lv_aloadN hx hb dX4_add_19 (lv_at hl 0 rfl) ?_
        refine lv_ifnullN (tgt := 31) hx hb dX4_add_21 (by decide) ?_
        refine lv_iconst (v := -1) hx hb dX4_add_31 (by decide) ?_
        exact w_iret (v := -1) hF hr hlocks hB (⟨by first | (simp [cadd, hj_5, hj_18, hs_20]; done) | (simp [cadd, hj_5, hj_18, hs_20]; rfl) | (simp [cadd, hj_5, hj_18, hs_20] <;> omega), by first | (simp [cadd, hj_5, hj_18, hs_20]; done) | (simp [cadd, hj_5, hj_18, hs_20]; rfl) | (simp [cadd, hj_5, hj_18, hs_20] <;> omega)⟩) dX4_add_32
      · rw [show cSet u (nI j_17) = some (sA u 4 j_17) from by simp [cSet, hj_18, hs_20]]
        show W p l e _ s m _ below meth c H locs _ _ _ (F0 m _ ls [.ref (sA u 4 (j_17))])
        refine lv_astore (lv' := [(6, .ref (sA u 4 (j_17))), (5, .ref (sA u 8 (j_4))), (0, .ref (a0)), (1, .int (nI (j_4))), (2, .int (nI (j_17))), (3, .int (v3)), (4, .int (x))]) hx hb dX4_add_12 hl (by decide) rfl (fun ls hl => ?_)
        refine lv_aload hx hb dX4_add_14 (lv_at hl 1 rfl) ?_
        refine lv_ifnull hx hb dX4_add_16 ?_
        refine lv_aload hx hb dX4_add_19 (lv_at hl 0 rfl) ?_
        refine lv_ifnull hx hb dX4_add_21 ?_
        refine lv_iload_n hx hb dX4_add_24 rfl (lv_at hl 5 rfl) ?_
        refine w_ci (r_S (As := [.int (v3)]) (rest := []) hF hB (c_X4_isElement l env s0 X u (v3) ) cs_X4_isElement tw_2_87 ⟨rfl, rfl, by decide, by decide⟩ rfl hl.1 rfl (lv_room (by decide)) dX4_add_25 ⟨Nat.le_of_ble_eq_true rfl, Nat.le_of_ble_eq_true rfl⟩) hB (fun r_21 u_23 H locs hq_22 hB => ?_)
        obtain ⟨rfl, rfl⟩ := hq_22
        refine w_ifne_b (tgt := 33) hx hb dX4_add_28 (by decide) (fun c_24 => ?_) (fun c_24 => ?_)
        · obtain ⟨j_25, hj_26⟩ := Option.isSome_iff_exists.mp c_24
          obtain ⟨hjl_27, rfl⟩ := ix_some (by decide) hj_26
          refine lv_aload hx hb dX4_add_33 (lv_at hl 1 rfl) ?_
          refine w_getN (v := .int (nI (gN u.2.1 16 (j_4) (0)))) (fk := 9) hF hB ⟨(hI.k8 hjl_6), rfl⟩ (cn_8 env u (j_4)) rfl in_X3 (by decide) tw_1_236 rfl rfl dX4_add_35 ?_
          refine w_ifeq_n (tgt := 44) (by have := hNb 16 (j_4) (0); omega) hx hb dX4_add_38 (by decide) (fun c_28 => ?_) (fun c_28 => ?_)
          · refine lv_aload hx hb dX4_add_44 (lv_at hl 1 rfl) ?_
            refine lv_aload hx hb dX4_add_46 (lv_at hl 0 rfl) ?_
            refine lv_iload_n hx hb dX4_add_48 rfl (lv_at hl 5 rfl) ?_
            refine w_ci (r_VN (As := [.int (nI (j_25))]) (rest := [.ref (sA u 8 (j_4))]) hF hB (c_X2_slotOf l env s0 X u (sA u 4 (j_17)) (j_17) (⟨(hI.k4 hjl_19), rfl⟩) (j_25) ) cv_X2_slotOf tw_2_90 ⟨rfl, rfl, by decide, by decide⟩ (hB.recv ⟨(hI.k4 hjl_19), rfl⟩ (cn_4 env u (j_17)) rfl) rfl hl.1 rfl (lv_room (Nat.le_of_ble_eq_true rfl)) dX4_add_49 ⟨Nat.le_of_ble_eq_true rfl, Nat.le_of_ble_eq_true rfl⟩) hB (fun r_29 u_31 H locs hq_30 hB => ?_)
            obtain ⟨rfl, rfl⟩ := hq_30
            refine lv_iload hx hb dX4_add_52 (lv_at hl 6 rfl) ?_
            refine w_cv (r_VN (As := [.int (nI (j_17 * 8 + j_25)), .int (x)]) (rest := []) hF hB (c_X3_addTo l env s0 X u (sA u 8 (j_4)) (j_4) (⟨(hI.k8 hjl_6), rfl⟩) (j_17 * 8 + j_25) (x) hI hNb (by omega)) cv_X3_addTo tw_2_110 ⟨rfl, rfl, by decide, by decide⟩ (hB.recv ⟨(hI.k8 hjl_6), rfl⟩ (cn_8 env u (j_4)) rfl) rfl hl.1 rfl (lv_room (by decide)) dX4_add_54 ⟨Nat.le_of_ble_eq_true rfl, Nat.le_of_ble_eq_true rfl⟩) hB (fun u_34 H locs hq_33 hB => ?_)
            obtain rfl := hq_33
            replace hB : Bd env s0 X (wC u (cAddTo u.2.1 (j_4) (j_17 * 8 + j_25) (x))) s H locs := hB
            have hI_35 : SI env (wC u (cAddTo u.2.1 (j_4) (j_17 * 8 + j_25) (x))) := SI.sameN rfl hI
            have hNb_36 : Nb (cAddTo u.2.1 (j_4) (j_17 * 8 + j_25) (x)) := hNb
            refine lv_iconst (v := nI 1) hx hb dX4_add_57 (by decide) ?_
            exact w_iret (v := nI 1) hF hr hlocks hB (⟨by first | (simp [cadd, hj_5, hj_18, hs_20, hj_26, c_28]; done) | (simp [cadd, hj_5, hj_18, hs_20, hj_26, c_28]; rfl) | (simp [cadd, hj_5, hj_18, hs_20, hj_26, c_28] <;> omega), by first | (simp [cadd, hj_5, hj_18, hs_20, hj_26, c_28]; done) | (simp [cadd, hj_5, hj_18, hs_20, hj_26, c_28]; rfl) | (simp [cadd, hj_5, hj_18, hs_20, hj_26, c_28] <;> omega)⟩) dX4_add_58
          · refine lv_bipush (v := -2) hx hb dX4_add_41 (by decide) ?_
            exact w_iret (v := -2) hF hr hlocks hB (⟨by first | (simp [cadd, hj_5, hj_18, hs_20, hj_26, c_28]; done) | (simp [cadd, hj_5, hj_18, hs_20, hj_26, c_28]; rfl) | (simp [cadd, hj_5, hj_18, hs_20, hj_26, c_28] <;> omega), by first | (simp [cadd, hj_5, hj_18, hs_20, hj_26, c_28]; done) | (simp [cadd, hj_5, hj_18, hs_20, hj_26, c_28]; rfl) | (simp [cadd, hj_5, hj_18, hs_20, hj_26, c_28] <;> omega)⟩) dX4_add_43
        · have hj_37 := Option.isSome_eq_false_iff.mp c_24
          rw [Option.isNone_iff_eq_none] at hj_37
          refine lv_iconst (v := -1) hx hb dX4_add_31 (by decide) ?_
          exact w_iret (v := -1) hF hr hlocks hB (⟨by first | (simp [cadd, hj_5, hj_18, hs_20, hj_37]; done) | (simp [cadd, hj_5, hj_18, hs_20, hj_37]; rfl) | (simp [cadd, hj_5, hj_18, hs_20, hj_37] <;> omega), by first | (simp [cadd, hj_5, hj_18, hs_20, hj_37]; done) | (simp [cadd, hj_5, hj_18, hs_20, hj_37]; rfl) | (simp [cadd, hj_5, hj_18, hs_20, hj_37] <;> omega)⟩) dX4_add_32
set_option maxHeartbeats 4000000 in
set_option maxRecDepth 100000 in
theorem c_X4_write (l : Launch) (env : Ev) (s0 : Nat) (X : va_W) (u : St) (a0 : Nat) (_xa0 : Nat) (ha0 : At u 0 (0) a0) (v1 : Int32) (v2 : Int32) (x : Int64) (hI : SI env u) (hNb : Nb u.2.1) (h15 : ∀ t, gN u.2.1 15 t 0 < 1000) : Met l yX4_write [Cond.code yX4_write cX4_write 7 (some .int)] { frames := 5, cells := 0, slots := 0, locals := 107 } (va_Pc [.ref (a0), .int (v1), .int (v2), .long (x)] (Pr env s0 X u)) (va_Qi (fun r u' => u' = wC u ((cwrite u.2.1 v1 v2 x).2) ∧ r = (cwrite u.2.1 v1 v2 x).1) (Po env s0 X) (fun q => s0 ≤ q)) 0 0 (fun q => s0 ≤ q) := by
  refine Met.ofW (cc := cX4_write) (maxL := 7) (ret := (some .int)) (by decide) rfl ?_
  intro p e s m args below meth c s₁ B hml hv
  obtain ⟨rfl, hv⟩ := hv
  have hx := B.exec
  have hb := B.bytes
  have hr := B.returns
  have hts : ∀ ww ∈ TT, ww.before #[.ref (a0), .int (v1), .int (v2), .long (x)] s = true := fun ww hw => hv.2.1 ww hw _
  have hown : s.vm.findClass RX4 = some m.cls := findClass_of_methodNamed B.named
  have hlocks := B.notSynchronized
  have hF : CallFix p m c cX4_write 7 s #[.ref (a0), .int (v1), .int (v2), .long (x)] TT RX4 := ⟨hx, hb, hml, hown, hts⟩
  have hB := Bd.entry hv
  have hl := lv_entry ([.ref (a0), .int (v1), .int (v2), .long (x)]) (n := 7) (Nat.le_of_ble_eq_true rfl)
  rw [lg_entry_eq]
  generalize (lg_sl ([.ref (a0), .int (v1), .int (v2), .long (x)]) ++ List.replicate (7 - (lg_sl ([.ref (a0), .int (v1), .int (v2), .long (x)])).length) Slot.unset).toArray = ls at hl ⊢
  have hl : lv_has ls 7 [(0, .ref (a0)), (1, .int (v1)), (2, .int (v2)), (3, .long (x))] := hl
  have hn4 := hI.nst
  have hn1 := hI.nth
  have hn2 := hI.ntx
  refine lv_aload_n hx hb dX4_write_0 rfl (lv_at hl 0 rfl) ?_
  refine lv_iload_n hx hb dX4_write_1 rfl (lv_at hl 1 rfl) ?_
  refine w_cq (r_V (As := [.int (v1)]) (rest := []) hF hB (c_X4_findTransaction l env s0 X u (a0) (0) (ha0) (v1) hI hNb) cv_X4_findTransaction tw_2_38 ⟨rfl, rfl, by decide, by decide⟩ (hB.recv ha0 (cn_0 env u (0)) rfl) rfl hl.1 rfl (lv_room (by decide)) dX4_write_2 ⟨Nat.le_of_ble_eq_true rfl, Nat.le_of_ble_eq_true rfl⟩) hB (fun r_1 u_3 H locs hq_2 hB => ?_)
  obtain ⟨rfl, rfl⟩ := hq_2
  rcases hj_5 : ix v1 (gN u.2.1 3 1 0) with _ | j_4
  · show W p l e _ s m _ below meth c H locs _ _ _ (F0 m _ ls [.null])
    refine lv_astoreN (lv' := [(5, .null), (0, .ref (a0)), (1, .int (v1)), (2, .int (v2)), (3, .long (x))]) hx hb dX4_write_5 hl (by decide) rfl (fun ls hl => ?_)
    refine lv_aload_n hx hb dX4_write_7 rfl (lv_at hl 1 rfl) ?_
    refine lv_iload_n hx hb dX4_write_8 rfl (lv_at hl 3 rfl) ?_
    refine w_cq (r_V (As := [.int (v2)]) (rest := []) hF hB (c_X4_findPlain l env s0 X u (a0) (0) (ha0) (v2) hI hNb) cv_X4_findPlain tw_2_56 ⟨rfl, rfl, by decide, by decide⟩ (hB.recv ha0 (cn_0 env u (0)) rfl) rfl hl.1 rfl (lv_room (by decide)) dX4_write_9 ⟨Nat.le_of_ble_eq_true rfl, Nat.le_of_ble_eq_true rfl⟩) hB (fun r_7 u_9 H locs hq_8 hB => ?_)
    obtain ⟨rfl, rfl⟩ := hq_8
    rcases hj_11 : ix v2 (gN u.2.1 3 0 0) with _ | j_10
    · rw [show cPlain u v2 = none from by simp [cPlain, hj_11]]
      show W p l e _ s m _ below meth c H locs _ _ _ (F0 m _ ls [.null])
      refine lv_astoreN (lv' := [(6, .null), (5, .null), (0, .ref (a0)), (1, .int (v1)), (2, .int (v2)), (3, .long (x))]) hx hb dX4_write_12 hl (by decide) rfl (fun ls hl => ?_)
      refine lv_aloadN hx hb dX4_write_14 (lv_at hl 1 rfl) ?_
      refine lv_ifnullN (tgt := 24) hx hb dX4_write_16 (by decide) ?_
      refine lv_iconst (v := -1) hx hb dX4_write_24 (by decide) ?_
      exact w_iret (v := -1) hF hr hlocks hB (⟨by first | (simp [cwrite, hj_5, hj_11]; done) | (simp [cwrite, hj_5, hj_11]; rfl) | (simp [cwrite, hj_5, hj_11] <;> omega), by first | (simp [cwrite, hj_5, hj_11]; done) | (simp [cwrite, hj_5, hj_11]; rfl) | (simp [cwrite, hj_5, hj_11] <;> omega)⟩) dX4_write_25
    · obtain ⟨hjl_12, rfl⟩ := ix_some (by have := hNb 3 0 0; omega) hj_11
      rcases hs_13 : gB u.2.1 4 j_10 0 with _ | _
      · rw [show cPlain u (nI j_10) = some (sA u 4 j_10) from by simp [cPlain, hj_11, hs_13]]
        show W p l e _ s m _ below meth c H locs _ _ _ (F0 m _ ls [.ref (sA u 4 (j_10))])
        refine lv_astore (lv' := [(6, .ref (sA u 4 (j_10))), (5, .null), (0, .ref (a0)), (1, .int (v1)), (2, .int (nI (j_10))), (3, .long (x))]) hx hb dX4_write_12 hl (by decide) rfl (fun ls hl => ?_)
        refine lv_aloadN hx hb dX4_write_14 (lv_at hl 1 rfl) ?_
        refine lv_ifnullN (tgt := 24) hx hb dX4_write_16 (by decide) ?_
        refine lv_iconst (v := -1) hx hb dX4_write_24 (by decide) ?_
        exact w_iret (v := -1) hF hr hlocks hB (⟨by first | (simp [cwrite, hj_5, hj_11, hs_13]; done) | (simp [cwrite, hj_5, hj_11, hs_13]; rfl) | (simp [cwrite, hj_5, hj_11, hs_13] <;> omega), by first | (simp [cwrite, hj_5, hj_11, hs_13]; done) | (simp [cwrite, hj_5, hj_11, hs_13]; rfl) | (simp [cwrite, hj_5, hj_11, hs_13] <;> omega)⟩) dX4_write_25
      · rw [show cPlain u (nI j_10) = none from by simp [cPlain, hj_11, hs_13]]
        show W p l e _ s m _ below meth c H locs _ _ _ (F0 m _ ls [.null])
        refine lv_astoreN (lv' := [(6, .null), (5, .null), (0, .ref (a0)), (1, .int (v1)), (2, .int (nI (j_10))), (3, .long (x))]) hx hb dX4_write_12 hl (by decide) rfl (fun ls hl => ?_)
        refine lv_aloadN hx hb dX4_write_14 (lv_at hl 1 rfl) ?_
        refine lv_ifnullN (tgt := 24) hx hb dX4_write_16 (by decide) ?_
        refine lv_iconst (v := -1) hx hb dX4_write_24 (by decide) ?_
        exact w_iret (v := -1) hF hr hlocks hB (⟨by first | (simp [cwrite, hj_5, hj_11, hs_13]; done) | (simp [cwrite, hj_5, hj_11, hs_13]; rfl) | (simp [cwrite, hj_5, hj_11, hs_13] <;> omega), by first | (simp [cwrite, hj_5, hj_11, hs_13]; done) | (simp [cwrite, hj_5, hj_11, hs_13]; rfl) | (simp [cwrite, hj_5, hj_11, hs_13] <;> omega)⟩) dX4_write_25
  · obtain ⟨hjl_6, rfl⟩ := ix_some (by have := hNb 3 1 0; omega) hj_5
    show W p l e _ s m _ below meth c H locs _ _ _ (F0 m _ ls [.ref (sA u 8 (j_4))])
    refine lv_astore (lv' := [(5, .ref (sA u 8 (j_4))), (0, .ref (a0)), (1, .int (nI (j_4))), (2, .int (v2)), (3, .long (x))]) hx hb dX4_write_5 hl (by decide) rfl (fun ls hl => ?_)
    refine lv_aload_n hx hb dX4_write_7 rfl (lv_at hl 1 rfl) ?_
    refine lv_iload_n hx hb dX4_write_8 rfl (lv_at hl 3 rfl) ?_
    refine w_cq (r_V (As := [.int (v2)]) (rest := []) hF hB (c_X4_findPlain l env s0 X u (a0) (0) (ha0) (v2) hI hNb) cv_X4_findPlain tw_2_56 ⟨rfl, rfl, by decide, by decide⟩ (hB.recv ha0 (cn_0 env u (0)) rfl) rfl hl.1 rfl (lv_room (by decide)) dX4_write_9 ⟨Nat.le_of_ble_eq_true rfl, Nat.le_of_ble_eq_true rfl⟩) hB (fun r_14 u_16 H locs hq_15 hB => ?_)
    obtain ⟨rfl, rfl⟩ := hq_15
    rcases hj_18 : ix v2 (gN u.2.1 3 0 0) with _ | j_17
    · rw [show cPlain u v2 = none from by simp [cPlain, hj_18]]
      show W p l e _ s m _ below meth c H locs _ _ _ (F0 m _ ls [.null])
      refine lv_astoreN (lv' := [(6, .null), (5, .ref (sA u 8 (j_4))), (0, .ref (a0)), (1, .int (nI (j_4))), (2, .int (v2)), (3, .long (x))]) hx hb dX4_write_12 hl (by decide) rfl (fun ls hl => ?_)
      refine lv_aload hx hb dX4_write_14 (lv_at hl 1 rfl) ?_
      refine lv_ifnull hx hb dX4_write_16 ?_
      refine lv_aloadN hx hb dX4_write_19 (lv_at hl 0 rfl) ?_
      refine lv_ifnonnullN hx hb dX4_write_21 ?_
      refine lv_iconst (v := -1) hx hb dX4_write_24 (by decide) ?_
      exact w_iret (v := -1) hF hr hlocks hB (⟨by first | (simp [cwrite, hj_5, hj_18]; done) | (simp [cwrite, hj_5, hj_18]; rfl) | (simp [cwrite, hj_5, hj_18] <;> omega), by first | (simp [cwrite, hj_5, hj_18]; done) | (simp [cwrite, hj_5, hj_18]; rfl) | (simp [cwrite, hj_5, hj_18] <;> omega)⟩) dX4_write_25
    · obtain ⟨hjl_19, rfl⟩ := ix_some (by have := hNb 3 0 0; omega) hj_18
      rcases hs_20 : gB u.2.1 4 j_17 0 with _ | _
      · rw [show cPlain u (nI j_17) = some (sA u 4 j_17) from by simp [cPlain, hj_18, hs_20]]
        show W p l e _ s m _ below meth c H locs _ _ _ (F0 m _ ls [.ref (sA u 4 (j_17))])
        refine lv_astore (lv' := [(6, .ref (sA u 4 (j_17))), (5, .ref (sA u 8 (j_4))), (0, .ref (a0)), (1, .int (nI (j_4))), (2, .int (nI (j_17))), (3, .long (x))]) hx hb dX4_write_12 hl (by decide) rfl (fun ls hl => ?_)
        refine lv_aload hx hb dX4_write_14 (lv_at hl 1 rfl) ?_
        refine lv_ifnull hx hb dX4_write_16 ?_
        refine lv_aload hx hb dX4_write_19 (lv_at hl 0 rfl) ?_
        refine lv_ifnonnull (tgt := 26) hx hb dX4_write_21 (by decide) ?_
        refine lv_aload hx hb dX4_write_26 (lv_at hl 1 rfl) ?_
        refine w_getN (v := .int (nI (gN u.2.1 16 (j_4) (0)))) (fk := 9) hF hB ⟨(hI.k8 hjl_6), rfl⟩ (cn_8 env u (j_4)) rfl in_X3 (by decide) tw_1_236 rfl rfl dX4_write_28 ?_
        refine w_ifeq_n (tgt := 37) (by have := hNb 16 (j_4) (0); omega) hx hb dX4_write_31 (by decide) (fun c_21 => ?_) (fun c_21 => ?_)
        · refine lv_aload hx hb dX4_write_37 (lv_at hl 1 rfl) ?_
          refine lv_aload hx hb dX4_write_39 (lv_at hl 0 rfl) ?_
          refine lv_lload_n hx hb dX4_write_41 rfl (lv_at hl 5 rfl) ?_
          refine w_cv (r_VN (As := [.ref (sA u 4 (j_17)), .long (x)]) (rest := []) hF hB (c_X3_put l env s0 X u (sA u 8 (j_4)) (j_4) (⟨(hI.k8 hjl_6), rfl⟩) (sA u 4 (j_17)) (j_17) (⟨(hI.k4 hjl_19), rfl⟩) (x) hI hNb (h15 (j_4))) cv_X3_put tw_2_102 ⟨rfl, rfl, by decide, by decide⟩ (hB.recv ⟨(hI.k8 hjl_6), rfl⟩ (cn_8 env u (j_4)) rfl) rfl hl.1 rfl (lv_room (by decide)) dX4_write_42 ⟨Nat.le_of_ble_eq_true rfl, Nat.le_of_ble_eq_true rfl⟩) hB (fun u_24 H locs hq_23 hB => ?_)
          obtain rfl := hq_23
          replace hB : Bd env s0 X (wC u (cPut u.2.1 (j_4) (j_17) (x))) s H locs := hB
          have hI_25 : SI env (wC u (cPut u.2.1 (j_4) (j_17) (x))) := SI.same (fun f hf => cP1_f _ _ _ (by omega)) hI
          have hNb_26 : Nb (cPut u.2.1 (j_4) (j_17) (x)) := (show Nb (cP1 _ _ _) from by unfold cP1; split; exact hNb; exact Nb.uN hNb (by have := (h15 (j_4)); omega))
          refine lv_aload hx hb dX4_write_45 (lv_at hl 1 rfl) ?_
          refine w_getN (v := .int (nI (gN (cPut u.2.1 (j_4) (j_17) (x)) 15 (j_4) (0)))) (fk := 8) hF hB ⟨(hI.k8 hjl_6), rfl⟩ (cn_8 env (wC u (cPut u.2.1 (j_4) (j_17) (x))) (j_4)) rfl in_X3 (by decide) tw_1_234 rfl rfl dX4_write_47 ?_
          exact w_iret (v := nI (gN (cPut u.2.1 (j_4) (j_17) (x)) 15 (j_4) (0))) hF hr hlocks hB (⟨by first | (simp [cwrite, hj_5, hj_18, hs_20, c_21]; done) | (simp [cwrite, hj_5, hj_18, hs_20, c_21]; rfl) | (simp [cwrite, hj_5, hj_18, hs_20, c_21] <;> omega), by first | (simp [cwrite, hj_5, hj_18, hs_20, c_21]; done) | (simp [cwrite, hj_5, hj_18, hs_20, c_21]; rfl) | (simp [cwrite, hj_5, hj_18, hs_20, c_21] <;> omega)⟩) dX4_write_50
        · refine lv_bipush (v := -2) hx hb dX4_write_34 (by decide) ?_
          exact w_iret (v := -2) hF hr hlocks hB (⟨by first | (simp [cwrite, hj_5, hj_18, hs_20, c_21]; done) | (simp [cwrite, hj_5, hj_18, hs_20, c_21]; rfl) | (simp [cwrite, hj_5, hj_18, hs_20, c_21] <;> omega), by first | (simp [cwrite, hj_5, hj_18, hs_20, c_21]; done) | (simp [cwrite, hj_5, hj_18, hs_20, c_21]; rfl) | (simp [cwrite, hj_5, hj_18, hs_20, c_21] <;> omega)⟩) dX4_write_36
      · rw [show cPlain u (nI j_17) = none from by simp [cPlain, hj_18, hs_20]]
        show W p l e _ s m _ below meth c H locs _ _ _ (F0 m _ ls [.null])
        refine lv_astoreN (lv' := [(6, .null), (5, .ref (sA u 8 (j_4))), (0, .ref (a0)), (1, .int (nI (j_4))), (2, .int (nI (j_17))), (3, .long (x))]) hx hb dX4_write_12 hl (by decide) rfl (fun ls hl => ?_)
        refine lv_aload hx hb dX4_write_14 (lv_at hl 1 rfl) ?_
        refine lv_ifnull hx hb dX4_write_16 ?_
        refine lv_aloadN hx hb dX4_write_19 (lv_at hl 0 rfl) ?_
        refine lv_ifnonnullN hx hb dX4_write_21 ?_
        refine lv_iconst (v := -1) hx hb dX4_write_24 (by decide) ?_
        exact w_iret (v := -1) hF hr hlocks hB (⟨by first | (simp [cwrite, hj_5, hj_18, hs_20]; done) | (simp [cwrite, hj_5, hj_18, hs_20]; rfl) | (simp [cwrite, hj_5, hj_18, hs_20] <;> omega), by first | (simp [cwrite, hj_5, hj_18, hs_20]; done) | (simp [cwrite, hj_5, hj_18, hs_20]; rfl) | (simp [cwrite, hj_5, hj_18, hs_20] <;> omega)⟩) dX4_write_25

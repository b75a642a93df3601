set_option maxHeartbeats 4000000 in
set_option maxRecDepth 100000 in
theorem c_Jx4a65c_add_72be8 (l : Launch) (env : Ev) (s0 : Nat) (X : va_W) (u : St) (a0 : Nat) (i : Nat) (ha0 : At u 2 (i) a0) (b1 : Nat) (hb1 : Obj u b1) (h3 : (3, sM u 3 0) ∉ sK u) (h2 : ∀ i, (2, i) ∈ sK u → sM u 2 i ≠ sM u 3 0) (hd1 : 0 < sM u 0 (sM u 2 i) → (3, sM u 2 i) ∈ sK u) (hd0 : sM u 0 (sM u 2 i) = 0 → sA u 3 (sM u 2 i) = env.2.2.1) (hsz : gN u.2.1 3 i 0 ≤ 2400) (hle : gN u.2.1 3 i 0 ≤ sM u 0 (sM u 2 i)) (hcp : sM u 0 (sM u 2 i) ≤ 4096) (hel : ∀ j y, j < gN u.2.1 3 i 0 → sE u (sM u 2 i) j = some y → Obj u y) (zz : Nat) (hzz : gN u.2.1 3 i 0 + gN u.2.1 3 i 0 + 10 ≤ zz) : Met l yJx4a65c_add_72be8 [Cond.code yJx4a65c_add_72be8 cJx4a65c_add_72be8 4 none] { frames := 5, cells := 1, slots := zz, locals := 127 } (va_Pc [.ref (a0), .ref (b1), .ref (sA u 3 (sM u 2 (i))), .int (nI (gN u.2.1 3 (i) 0))] (Pr env s0 X u)) (va_Qv (fun u' => ∃ q, u' = adF u i b1 q) (Po env s0 X) (fun q => s0 ≤ q)) 1 zz (fun q => s0 ≤ q) := by
  refine Met.ofW (cc := cJx4a65c_add_72be8) (maxL := 4) (ret := none) (by decide) rfl ?_
  intro p e s m args below meth c s₁ B hml hv
  obtain ⟨rfl, hv⟩ := hv
  have hx := B.exec
  have hb := B.bytes
  have hr := B.returns
  have hts : ∀ ww ∈ TT, ww.before #[.ref (a0), .ref (b1), .ref (sA u 3 (sM u 2 (i))), .int (nI (gN u.2.1 3 (i) 0))] s = true := fun ww hw => hv.2.1 ww hw _
  have hown : s.vm.findClass RJx4a65c = some m.cls := findClass_of_methodNamed B.named
  have hlocks := B.notSynchronized
  have hF : CallFix p m c cJx4a65c_add_72be8 4 s #[.ref (a0), .ref (b1), .ref (sA u 3 (sM u 2 (i))), .int (nI (gN u.2.1 3 (i) 0))] TT RJx4a65c := ⟨hx, hb, hml, hown, hts⟩
  have hB := Bd.entry hv
  have hl := lv_entry ([.ref (a0), .ref (b1), .ref (sA u 3 (sM u 2 (i))), .int (nI (gN u.2.1 3 (i) 0))]) (n := 4) (Nat.le_of_ble_eq_true rfl)
  rw [lg_entry_eq]
  generalize (lg_sl ([.ref (a0), .ref (b1), .ref (sA u 3 (sM u 2 (i))), .int (nI (gN u.2.1 3 (i) 0))]) ++ List.replicate (4 - (lg_sl ([.ref (a0), .ref (b1), .ref (sA u 3 (sM u 2 (i))), .int (nI (gN u.2.1 3 (i) 0))])).length) Slot.unset).toArray = ls at hl ⊢
  have hl : lv_has ls 4 [(0, .ref (a0)), (1, .ref (b1)), (2, .ref (sA u 3 (sM u 2 (i)))), (3, .int (nI (gN u.2.1 3 (i) 0)))] := hl
  rcases Nat.eq_zero_or_pos (sM u 0 (sM u 2 i)) with hz | hz
  · have hde := hd0 hz
    refine lv_iload_n hx hb dJx4a65c_add_72be8_0 rfl (lv_at hl 3 rfl) ?_
    refine lv_aload_n hx hb dJx4a65c_add_72be8_1 rfl (lv_at hl 2 rfl) ?_
    refine w_alD hF hB hde dJx4a65c_add_72be8_2 ?_
    have hfu : gN u.2.1 3 i 0 = sM u 0 (sM u 2 i) := by omega
    refine w_icne_n (tgt := 11) (by omega) (by decide) hx hb dJx4a65c_add_72be8_3 (by decide) (fun c => absurd (by omega) c) (fun _ => ?_)
    refine lv_aload_n hx hb dJx4a65c_add_72be8_6 rfl (lv_at hl 0 rfl) ?_
    refine w_cq (r_V (As := []) (rest := []) hF hB (c_Jx4a65c_grow_d5877 l env s0 X u (a0) (i) (ha0) h3 h2 hd1 hd0 hsz hle hcp hel zz hzz hfu) cv_Jx4a65c_grow_d5877 tw_1_149 ⟨rfl, rfl, Nat.le_of_ble_eq_true rfl, Nat.le_of_ble_eq_true rfl⟩ (hB.recv ha0 (cn_2 env u (i)) rfl) rfl hl.1 rfl (lv_room (by decide)) dJx4a65c_add_72be8_7 ⟨Nat.le_of_ble_eq_true rfl, (by show 0 + zz ≤ zz; omega)⟩) hB (fun r_1 u_3 H locs hq_2 hB => ?_)
    obtain ⟨q, rfl, rfl⟩ := hq_2
    show W p l e _ s m _ below meth c H locs _ _ _ (F0 m _ ls [.ref (q)])
    refine lv_astore_n (lv' := [(2, .ref (q)), (0, .ref (a0)), (1, .ref (b1)), (3, .int (nI (gN u.2.1 3 (i) 0)))]) hx hb dJx4a65c_add_72be8_10 rfl hl (by decide) rfl (fun ls hl => ?_)
    refine lv_aload_n hx hb dJx4a65c_add_72be8_11 rfl (lv_at hl 0 rfl) ?_
    refine lv_iload_n hx hb dJx4a65c_add_72be8_12 rfl (lv_at hl 3 rfl) ?_
    refine lv_aload_n hx hb dJx4a65c_add_72be8_13 rfl (lv_at hl 2 rfl) ?_
    refine w_astO hF hB At_gr (hB.obj hF (Obj_gr h3 hb1)) (by rw [gr_cap]; unfold gCap; split <;> omega) (by rw [gr_cap]; unfold gCap; split <;> omega) dJx4a65c_add_72be8_14 (fun H locs hB => ?_)
    refine lv_aload_n hx hb dJx4a65c_add_72be8_15 rfl (lv_at hl 1 rfl) ?_
    refine lv_iload_n hx hb dJx4a65c_add_72be8_16 rfl (lv_at hl 3 rfl) ?_
    refine lv_iconst (v := nI 1) hx hb dJx4a65c_add_72be8_17 (by decide) ?_
    refine w_iadd_n hx hb dJx4a65c_add_72be8_18 ?_
    refine w_put (fk := 2) (v := .int (nI ((gN u.2.1 3 (i) 0) + 1))) (ty := .int) hF hB (At_grk h3 ha0) (vN (vF (gr u i q) (sM (gr u i q) 2 i) (va_up (sE (gr u i q) (sM (gr u i q) 2 i)) (gN u.2.1 3 i 0) (some b1))) 3 (i) (0) ((gN u.2.1 3 (i) 0) + 1)) (cn_2 env (vF (gr u i q) (sM (gr u i q) 2 i) (va_up (sE (gr u i q) (sM (gr u i q) 2 i)) (gN u.2.1 3 i 0) (some b1))) (i)) rfl in_AL tyJx4a65c tyJx4a65c_ok nmJx4a65c (by decide) tw_1_41 rfl rfl (by decide +kernel) rfl rfl (Nat.le_of_ble_eq_true rfl) rfl rfl (cu_N3 env (vF (gr u i q) (sM (gr u i q) 2 i) (va_up (sE (gr u i q) (sM (gr u i q) 2 i)) (gN u.2.1 3 i 0) (some b1))) (i) ((gN u.2.1 3 (i) 0) + 1)) dJx4a65c_add_72be8_19 (fun H locs hB => ?_)
    refine W.widen (k := 1) (n := zz) (Nat.le_of_ble_eq_true rfl) (by show _ ≤ zz; omega) ?_
    exact w_vret hF hr hlocks hB (⟨q, by unfold adF; rw [if_pos hfu]; unfold adO; rw [gr_2u]⟩) dJx4a65c_add_72be8_22
  · have h3i := hd1 hz
    refine lv_iload_n hx hb dJx4a65c_add_72be8_0 rfl (lv_at hl 3 rfl) ?_
    refine lv_aload_n hx hb dJx4a65c_add_72be8_1 rfl (lv_at hl 2 rfl) ?_
    refine w_alO (n := sM u 0 (sM u 2 i)) hF hB ⟨h3i, rfl⟩ rfl dJx4a65c_add_72be8_2 ?_
    refine w_icne_n (tgt := 11) (by omega) (by omega) hx hb dJx4a65c_add_72be8_3 (by decide) (fun hfu => ?_) (fun hfu => ?_)
    · refine lv_aload_n hx hb dJx4a65c_add_72be8_11 rfl (lv_at hl 2 rfl) ?_
      refine lv_iload_n hx hb dJx4a65c_add_72be8_12 rfl (lv_at hl 3 rfl) ?_
      refine lv_aload_n hx hb dJx4a65c_add_72be8_13 rfl (lv_at hl 1 rfl) ?_
      refine w_astO hF hB ⟨h3i, rfl⟩ (hB.obj hF hb1) (by omega) hcp dJx4a65c_add_72be8_14 (fun H locs hB => ?_)
      refine lv_aload_n hx hb dJx4a65c_add_72be8_15 rfl (lv_at hl 0 rfl) ?_
      refine lv_iload_n hx hb dJx4a65c_add_72be8_16 rfl (lv_at hl 3 rfl) ?_
      refine lv_iconst (v := nI 1) hx hb dJx4a65c_add_72be8_17 (by decide) ?_
      refine w_iadd_n hx hb dJx4a65c_add_72be8_18 ?_
      refine w_put (fk := 2) (v := .int (nI ((gN u.2.1 3 (i) 0) + 1))) (ty := .int) hF hB ha0 (vN (vF u (sM u 2 i) (va_up (sE u (sM u 2 i)) (gN u.2.1 3 i 0) (some b1))) 3 (i) (0) ((gN u.2.1 3 (i) 0) + 1)) (cn_2 env (vF u (sM u 2 i) (va_up (sE u (sM u 2 i)) (gN u.2.1 3 i 0) (some b1))) (i)) rfl in_AL tyJx4a65c tyJx4a65c_ok nmJx4a65c (by decide) tw_1_41 rfl rfl (by decide +kernel) rfl rfl (Nat.le_of_ble_eq_true rfl) rfl rfl (cu_N3 env (vF u (sM u 2 i) (va_up (sE u (sM u 2 i)) (gN u.2.1 3 i 0) (some b1))) (i) ((gN u.2.1 3 (i) 0) + 1)) dJx4a65c_add_72be8_19 (fun H locs hB => ?_)
      refine W.widen (k := 1) (n := zz) (Nat.zero_le _) (Nat.zero_le _) ?_
      exact w_vret hF hr hlocks hB (⟨0, by unfold adF; rw [if_neg hfu]; rfl⟩) dJx4a65c_add_72be8_22
    · refine lv_aload_n hx hb dJx4a65c_add_72be8_6 rfl (lv_at hl 0 rfl) ?_
      refine w_cq (r_V (As := []) (rest := []) hF hB (c_Jx4a65c_grow_d5877 l env s0 X u (a0) (i) (ha0) h3 h2 hd1 hd0 hsz hle hcp hel zz hzz hfu) cv_Jx4a65c_grow_d5877 tw_1_149 ⟨rfl, rfl, Nat.le_of_ble_eq_true rfl, Nat.le_of_ble_eq_true rfl⟩ (hB.recv ha0 (cn_2 env u (i)) rfl) rfl hl.1 rfl (lv_room (by decide)) dJx4a65c_add_72be8_7 ⟨Nat.le_of_ble_eq_true rfl, (by show 0 + zz ≤ zz; omega)⟩) hB (fun r_4 u_6 H locs hq_5 hB => ?_)
      obtain ⟨q, rfl, rfl⟩ := hq_5
      show W p l e _ s m _ below meth c H locs _ _ _ (F0 m _ ls [.ref (q)])
      refine lv_astore_n (lv' := [(2, .ref (q)), (0, .ref (a0)), (1, .ref (b1)), (3, .int (nI (gN u.2.1 3 (i) 0)))]) hx hb dJx4a65c_add_72be8_10 rfl hl (by decide) rfl (fun ls hl => ?_)
      refine lv_aload_n hx hb dJx4a65c_add_72be8_11 rfl (lv_at hl 0 rfl) ?_
      refine lv_iload_n hx hb dJx4a65c_add_72be8_12 rfl (lv_at hl 3 rfl) ?_
      refine lv_aload_n hx hb dJx4a65c_add_72be8_13 rfl (lv_at hl 2 rfl) ?_
      refine w_astO hF hB At_gr (hB.obj hF (Obj_gr h3 hb1)) (by rw [gr_cap]; unfold gCap; split <;> omega) (by rw [gr_cap]; unfold gCap; split <;> omega) dJx4a65c_add_72be8_14 (fun H locs hB => ?_)
      refine lv_aload_n hx hb dJx4a65c_add_72be8_15 rfl (lv_at hl 1 rfl) ?_
      refine lv_iload_n hx hb dJx4a65c_add_72be8_16 rfl (lv_at hl 3 rfl) ?_
      refine lv_iconst (v := nI 1) hx hb dJx4a65c_add_72be8_17 (by decide) ?_
      refine w_iadd_n hx hb dJx4a65c_add_72be8_18 ?_
      refine w_put (fk := 2) (v := .int (nI ((gN u.2.1 3 (i) 0) + 1))) (ty := .int) hF hB (At_grk h3 ha0) (vN (vF (gr u i q) (sM (gr u i q) 2 i) (va_up (sE (gr u i q) (sM (gr u i q) 2 i)) (gN u.2.1 3 i 0) (some b1))) 3 (i) (0) ((gN u.2.1 3 (i) 0) + 1)) (cn_2 env (vF (gr u i q) (sM (gr u i q) 2 i) (va_up (sE (gr u i q) (sM (gr u i q) 2 i)) (gN u.2.1 3 i 0) (some b1))) (i)) rfl in_AL tyJx4a65c tyJx4a65c_ok nmJx4a65c (by decide) tw_1_41 rfl rfl (by decide +kernel) rfl rfl (Nat.le_of_ble_eq_true rfl) rfl rfl (cu_N3 env (vF (gr u i q) (sM (gr u i q) 2 i) (va_up (sE (gr u i q) (sM (gr u i q) 2 i)) (gN u.2.1 3 i 0) (some b1))) (i) ((gN u.2.1 3 (i) 0) + 1)) dJx4a65c_add_72be8_19 (fun H locs hB => ?_)
      refine W.widen (k := 1) (n := zz) (Nat.le_of_ble_eq_true rfl) (by show _ ≤ zz; omega) ?_
      exact w_vret hF hr hlocks hB (⟨q, by unfold adF; rw [if_pos hfu]; unfold adO; rw [gr_2u]⟩) dJx4a65c_add_72be8_22
set_option maxHeartbeats 4000000 in
set_option maxRecDepth 100000 in
theorem c_Jx4a65c_add_9ea2d (l : Launch) (env : Ev) (s0 : Nat) (X : va_W) (u : St) (a0 : Nat) (i : Nat) (ha0 : At u 2 (i) a0) (b1 : Nat) (hb1 : Obj u b1) (h3 : (3, sM u 3 0) ∉ sK u) (h2 : ∀ i, (2, i) ∈ sK u → sM u 2 i ≠ sM u 3 0) (hd1 : 0 < sM u 0 (sM u 2 i) → (3, sM u 2 i) ∈ sK u) (hd0 : sM u 0 (sM u 2 i) = 0 → sA u 3 (sM u 2 i) = env.2.2.1) (hsz : gN u.2.1 3 i 0 ≤ 2400) (hle : gN u.2.1 3 i 0 ≤ sM u 0 (sM u 2 i)) (hcp : sM u 0 (sM u 2 i) ≤ 4096) (hel : ∀ j y, j < gN u.2.1 3 i 0 → sE u (sM u 2 i) j = some y → Obj u y) (zz : Nat) (hzz : gN u.2.1 3 i 0 + gN u.2.1 3 i 0 + 10 ≤ zz) : Met l yJx4a65c_add_9ea2d [Cond.code yJx4a65c_add_9ea2d cJx4a65c_add_9ea2d 2 (some .boolean)] { frames := 6, cells := 1, slots := zz, locals := 150 } (va_Pc [.ref (a0), .ref (b1)] (Pr env s0 X u)) (va_Qi (fun r u' => r = nI 1 ∧ ∃ q, u' = adF (vM u 1 i (sM u 1 i + 1)) i b1 q) (Po env s0 X) (fun q => s0 ≤ q)) 1 zz (fun q => s0 ≤ q) := by
  refine Met.ofW (cc := cJx4a65c_add_9ea2d) (maxL := 2) (ret := (some .boolean)) (by decide) rfl ?_
  intro p e s m args below meth c s₁ B hml hv
  obtain ⟨rfl, hv⟩ := hv
  have hx := B.exec
  have hb := B.bytes
  have hr := B.returns
  have hts : ∀ ww ∈ TT, ww.before #[.ref (a0), .ref (b1)] s = true := fun ww hw => hv.2.1 ww hw _
  have hown : s.vm.findClass RJx4a65c = some m.cls := findClass_of_methodNamed B.named
  have hlocks := B.notSynchronized
  have hF : CallFix p m c cJx4a65c_add_9ea2d 2 s #[.ref (a0), .ref (b1)] TT RJx4a65c := ⟨hx, hb, hml, hown, hts⟩
  have hB := Bd.entry hv
  have hl := lv_entry ([.ref (a0), .ref (b1)]) (n := 2) (Nat.le_of_ble_eq_true rfl)
  rw [lg_entry_eq]
  generalize (lg_sl ([.ref (a0), .ref (b1)]) ++ List.replicate (2 - (lg_sl ([.ref (a0), .ref (b1)])).length) Slot.unset).toArray = ls at hl ⊢
  have hl : lv_has ls 2 [(0, .ref (a0)), (1, .ref (b1))] := hl
  refine lv_aload_n hx hb dJx4a65c_add_9ea2d_0 rfl (lv_at hl 0 rfl) ?_
  refine lv_dup hx hb dJx4a65c_add_9ea2d_1 rfl ?_
  refine w_getM (v := .int (nI (sM u 1 (i)))) (fk := 0) hF hB ha0 (cn_2 env u (i)) rfl in_AL (by decide) tw_1_43 (u_same (hts _ tw_1_44)) rfl dJx4a65c_add_9ea2d_2 ?_
  refine lv_iconst (v := nI 1) hx hb dJx4a65c_add_9ea2d_5 (by decide) ?_
  refine w_iadd_n hx hb dJx4a65c_add_9ea2d_6 ?_
  refine w_putM (fk := 0) (v := .int (nI ((sM u 1 (i)) + 1))) (ty := .int) hF hB ha0 (vM u 1 i (sM u 1 i + 1)) (cn_2 env u i) rfl in_AL tyJx4a65c tyJx4a65c_ok nmJx4a65c (by decide) tw_1_43 (u_same (hts _ tw_1_44)) rfl (by decide +kernel) rfl rfl (Nat.le_of_ble_eq_true rfl) rfl rfl (cu_M1 env u i (sM u 1 i + 1)) dJx4a65c_add_9ea2d_7 (fun H locs hB => ?_)
  refine lv_aload_n hx hb dJx4a65c_add_9ea2d_10 rfl (lv_at hl 0 rfl) ?_
  refine lv_aload_n hx hb dJx4a65c_add_9ea2d_11 rfl (lv_at hl 1 rfl) ?_
  refine lv_aload_n hx hb dJx4a65c_add_9ea2d_12 rfl (lv_at hl 0 rfl) ?_
  refine w_get (v := .ref (sA u 3 (sM u 2 (i)))) (fk := 1) hF hB ha0 (cn_2 env (vM u 1 i (sM u 1 i + 1)) (i)) rfl in_AL (by decide) tw_1_40 rfl rfl dJx4a65c_add_9ea2d_13 ?_
  refine lv_aload_n hx hb dJx4a65c_add_9ea2d_16 rfl (lv_at hl 0 rfl) ?_
  refine w_get (v := .int (nI (gN u.2.1 3 (i) (0)))) (fk := 2) hF hB ha0 (cn_2 env (vM u 1 i (sM u 1 i + 1)) (i)) rfl in_AL (by decide) tw_1_41 rfl rfl dJx4a65c_add_9ea2d_17 ?_
  refine w_cv (r_V (As := [.ref (b1), .ref (sA u 3 (sM u 2 (i))), .int (nI (gN u.2.1 3 (i) (0)))]) (rest := []) hF hB (c_Jx4a65c_add_72be8 l env s0 X (vM u 1 i (sM u 1 i + 1)) (a0) (i) (ha0) (b1) (hb1) h3 h2 hd1 hd0 hsz hle hcp hel zz hzz) cv_Jx4a65c_add_72be8 tw_1_145 ⟨rfl, rfl, Nat.le_of_ble_eq_true rfl, Nat.le_of_ble_eq_true rfl⟩ (hB.recv ha0 (cn_2 env (vM u 1 i (sM u 1 i + 1)) (i)) rfl) rfl hl.1 rfl (lv_room (by decide)) dJx4a65c_add_9ea2d_20 ⟨Nat.le_of_ble_eq_true rfl, (by show 0 + zz ≤ zz; omega)⟩) hB (fun u_3 H locs hq_2 hB => ?_)
  obtain ⟨q, rfl⟩ := hq_2
  refine lv_iconst (v := nI 1) hx hb dJx4a65c_add_9ea2d_23 (by decide) ?_
  refine W.widen (k := 1) (n := zz) (Nat.le_of_ble_eq_true rfl) (by show _ ≤ zz; omega) ?_
  exact w_zret (v := nI 1) hF hr rfl hlocks hB (⟨rfl, q, rfl⟩) dJx4a65c_add_9ea2d_24
set_option maxHeartbeats 4000000 in
set_option maxRecDepth 100000 in
theorem c_Jx4a65c_fastRemove_b59b0 (l : Launch) (env : Ev) (s0 : Nat) (X : va_W) (u : St) (a0 : Nat) (i : Nat) (ha0 : At u 2 (i) a0) (j : Nat) (h3i : (3, sM u 2 i) ∈ sK u) (hj : j < gN u.2.1 3 i 0) (hle : gN u.2.1 3 i 0 ≤ sM u 0 (sM u 2 i)) (hcp : sM u 0 (sM u 2 i) ≤ 4096) (hel : ∀ j y, j < gN u.2.1 3 i 0 → sE u (sM u 2 i) j = some y → Obj u y) (hNb : Nb u.2.1) : Met l yJx4a65c_fastRemove_b59b0 [Cond.code yJx4a65c_fastRemove_b59b0 cJx4a65c_fastRemove_b59b0 4 none] { frames := 1, cells := 0, slots := 0, locals := 40 } (va_Pc [.ref (a0), .ref (sA u 3 (sM u 2 (i))), .int (nI (j))] (Pr env s0 X u)) (va_Qv (fun u' => u' = rmF u i j) (Po env s0 X) (fun q => s0 ≤ q)) 0 0 (fun q => s0 ≤ q) := by
  refine Met.ofW (cc := cJx4a65c_fastRemove_b59b0) (maxL := 4) (ret := none) (by decide) rfl ?_
  intro p e s m args below meth c s₁ B hml hv
  obtain ⟨rfl, hv⟩ := hv
  have hx := B.exec
  have hb := B.bytes
  have hr := B.returns
  have hts : ∀ ww ∈ TT, ww.before #[.ref (a0), .ref (sA u 3 (sM u 2 (i))), .int (nI (j))] s = true := fun ww hw => hv.2.1 ww hw _
  have hown : s.vm.findClass RJx4a65c = some m.cls := findClass_of_methodNamed B.named
  have hlocks := B.notSynchronized
  have hF : CallFix p m c cJx4a65c_fastRemove_b59b0 4 s #[.ref (a0), .ref (sA u 3 (sM u 2 (i))), .int (nI (j))] TT RJx4a65c := ⟨hx, hb, hml, hown, hts⟩
  have hB := Bd.entry hv
  have hl := lv_entry ([.ref (a0), .ref (sA u 3 (sM u 2 (i))), .int (nI (j))]) (n := 4) (Nat.le_of_ble_eq_true rfl)
  rw [lg_entry_eq]
  generalize (lg_sl ([.ref (a0), .ref (sA u 3 (sM u 2 (i))), .int (nI (j))]) ++ List.replicate (4 - (lg_sl ([.ref (a0), .ref (sA u 3 (sM u 2 (i))), .int (nI (j))])).length) Slot.unset).toArray = ls at hl ⊢
  have hl : lv_has ls 4 [(0, .ref (a0)), (1, .ref (sA u 3 (sM u 2 (i)))), (2, .int (nI (j)))] := hl
  have hsz := hNb 3 i 0
  refine lv_aload_n hx hb dJx4a65c_fastRemove_b59b0_0 rfl (lv_at hl 0 rfl) ?_
  refine lv_dup hx hb dJx4a65c_fastRemove_b59b0_1 rfl ?_
  refine w_getM (v := .int (nI (sM u 1 (i)))) (fk := 0) hF hB ha0 (cn_2 env u (i)) rfl in_AL (by decide) tw_1_43 (u_same (hts _ tw_1_44)) rfl dJx4a65c_fastRemove_b59b0_2 ?_
  refine lv_iconst (v := nI 1) hx hb dJx4a65c_fastRemove_b59b0_5 (by decide) ?_
  refine w_iadd_n hx hb dJx4a65c_fastRemove_b59b0_6 ?_
  refine w_putM (fk := 0) (v := .int (nI ((sM u 1 (i)) + 1))) (ty := .int) hF hB ha0 (vM u 1 i (sM u 1 i + 1)) (cn_2 env u i) rfl in_AL tyJx4a65c tyJx4a65c_ok nmJx4a65c (by decide) tw_1_43 (u_same (hts _ tw_1_44)) rfl (by decide +kernel) rfl rfl (Nat.le_of_ble_eq_true rfl) rfl rfl (cu_M1 env u i (sM u 1 i + 1)) dJx4a65c_fastRemove_b59b0_7 (fun H locs hB => ?_)
  refine lv_aload_n hx hb dJx4a65c_fastRemove_b59b0_10 rfl (lv_at hl 0 rfl) ?_
  refine w_get (v := .int (nI (gN u.2.1 3 (i) (0)))) (fk := 2) hF hB ha0 (cn_2 env (vM u 1 i (sM u 1 i + 1)) (i)) rfl in_AL (by decide) tw_1_41 rfl rfl dJx4a65c_fastRemove_b59b0_11 ?_
  refine lv_iconst (v := nI 1) hx hb dJx4a65c_fastRemove_b59b0_14 (by decide) ?_
  refine w_isub_n (by omega) hx hb dJx4a65c_fastRemove_b59b0_15 ?_
  refine lv_dup hx hb dJx4a65c_fastRemove_b59b0_16 rfl ?_
  refine lv_istore_n (lv' := [(3, .int (nI ((gN u.2.1 3 (i) (0)) - 1))), (0, .ref (a0)), (1, .ref (sA u 3 (sM u 2 (i)))), (2, .int (nI (j)))]) hx hb dJx4a65c_fastRemove_b59b0_17 rfl hl (by decide) rfl (fun ls hl => ?_)
  refine lv_iload_n hx hb dJx4a65c_fastRemove_b59b0_18 rfl (lv_at hl 3 rfl) ?_
  refine w_icle_n (tgt := 34) (by have := hNb 3 (i) (0); omega) (by omega) hx hb dJx4a65c_fastRemove_b59b0_19 (by decide) (fun c_1 => ?_) (fun c_1 => ?_)
  · refine lv_aload_n hx hb dJx4a65c_fastRemove_b59b0_34 rfl (lv_at hl 2 rfl) ?_
    refine lv_aload_n hx hb dJx4a65c_fastRemove_b59b0_35 rfl (lv_at hl 1 rfl) ?_
    refine lv_iload_n hx hb dJx4a65c_fastRemove_b59b0_36 rfl (lv_at hl 0 rfl) ?_
    refine lv_dup_x1 hx hb dJx4a65c_fastRemove_b59b0_37 rfl rfl ?_
    refine w_put (fk := 2) (v := .int (nI ((gN u.2.1 3 (i) (0)) - 1))) (ty := .int) hF hB ha0 (vN (vM u 1 i (sM u 1 i + 1)) 3 (i) (0) ((gN u.2.1 3 (i) (0)) - 1)) (cn_2 env (vM u 1 i (sM u 1 i + 1)) (i)) rfl in_AL tyJx4a65c tyJx4a65c_ok nmJx4a65c (by decide) tw_1_41 rfl rfl (by decide +kernel) rfl rfl (Nat.le_of_ble_eq_true rfl) rfl rfl (cu_N3 env (vM u 1 i (sM u 1 i + 1)) (i) ((gN u.2.1 3 (i) (0)) - 1)) dJx4a65c_fastRemove_b59b0_38 (fun H locs hB => ?_)
    refine lv_null hx hb dJx4a65c_fastRemove_b59b0_41 ?_
    refine w_astN (i := sM u 2 i) hF hB ⟨h3i, rfl⟩ (by show _ < sM u 0 (sM u 2 i); omega) hcp dJx4a65c_fastRemove_b59b0_42 (fun H locs hB => ?_)
    replace hB : Bd env s0 X (rmF u i j) s H locs := by unfold rmF rmG; rw [if_neg (by omega)]; exact hB
    exact w_vret hF hr hlocks hB (rfl) dJx4a65c_fastRemove_b59b0_43
  · refine lv_aload_n hx hb dJx4a65c_fastRemove_b59b0_22 rfl (lv_at hl 2 rfl) ?_
    refine lv_iload_n hx hb dJx4a65c_fastRemove_b59b0_23 rfl (lv_at hl 3 rfl) ?_
    refine lv_iconst (v := nI 1) hx hb dJx4a65c_fastRemove_b59b0_24 (by decide) ?_
    refine w_iadd_n hx hb dJx4a65c_fastRemove_b59b0_25 ?_
    refine lv_aload_n hx hb dJx4a65c_fastRemove_b59b0_26 rfl (lv_at hl 2 rfl) ?_
    refine lv_iload_n hx hb dJx4a65c_fastRemove_b59b0_27 rfl (lv_at hl 3 rfl) ?_
    refine lv_iload_n hx hb dJx4a65c_fastRemove_b59b0_28 rfl (lv_at hl 0 rfl) ?_
    refine lv_iload_n hx hb dJx4a65c_fastRemove_b59b0_29 rfl (lv_at hl 3 rfl) ?_
    refine w_isub_n (by omega) hx hb dJx4a65c_fastRemove_b59b0_30 ?_
    refine w_acpO (i := sM u 2 i) (i2 := sM u 2 i) (sp := j + 1) (dp := j) (n := gN u.2.1 3 i 0 - 1 - j) hF hB hl.1 ⟨h3i, rfl⟩ ⟨h3i, rfl⟩ (by show _ ≤ sM u 0 (sM u 2 i); omega) (by show _ ≤ sM u 0 (sM u 2 i); omega) hcp hcp (fun x y hx hy => hB.obj hF (hel (j + 1 + x) y (by omega) hy)) tw_2_221 tw_1_192 tw_1_191 tw_1_11 (by decide) (by decide) dJx4a65c_fastRemove_b59b0_31 (fun H locs hB => ?_)
    replace hB : Bd env s0 X (vF (vM u 1 i (sM u 1 i + 1)) (sM u 2 i) (va_cpy (sE u (sM u 2 i)) (sE u (sM u 2 i)) (j + 1) j (gN u.2.1 3 i 0 - 1 - j))) s H locs := hB
    refine lv_aload_n hx hb dJx4a65c_fastRemove_b59b0_34 rfl (lv_at hl 2 rfl) ?_
    refine lv_aload_n hx hb dJx4a65c_fastRemove_b59b0_35 rfl (lv_at hl 1 rfl) ?_
    refine lv_iload_n hx hb dJx4a65c_fastRemove_b59b0_36 rfl (lv_at hl 0 rfl) ?_
    refine lv_dup_x1 hx hb dJx4a65c_fastRemove_b59b0_37 rfl rfl ?_
    refine w_put (fk := 2) (v := .int (nI ((gN u.2.1 3 (i) (0)) - 1))) (ty := .int) hF hB ha0 (vN (vF (vM u 1 i (sM u 1 i + 1)) (sM u 2 i) (va_cpy (sE u (sM u 2 i)) (sE u (sM u 2 i)) (j + 1) j (gN u.2.1 3 i 0 - 1 - j))) 3 (i) (0) ((gN u.2.1 3 (i) (0)) - 1)) (cn_2 env (vF (vM u 1 i (sM u 1 i + 1)) (sM u 2 i) (va_cpy (sE u (sM u 2 i)) (sE u (sM u 2 i)) (j + 1) j (gN u.2.1 3 i 0 - 1 - j))) (i)) rfl in_AL tyJx4a65c tyJx4a65c_ok nmJx4a65c (by decide) tw_1_41 rfl rfl (by decide +kernel) rfl rfl (Nat.le_of_ble_eq_true rfl) rfl rfl (cu_N3 env (vF (vM u 1 i (sM u 1 i + 1)) (sM u 2 i) (va_cpy (sE u (sM u 2 i)) (sE u (sM u 2 i)) (j + 1) j (gN u.2.1 3 i 0 - 1 - j))) (i) ((gN u.2.1 3 (i) (0)) - 1)) dJx4a65c_fastRemove_b59b0_38 (fun H locs hB => ?_)
    refine lv_null hx hb dJx4a65c_fastRemove_b59b0_41 ?_
    refine w_astN (i := sM u 2 i) hF hB ⟨h3i, rfl⟩ (by show _ < sM u 0 (sM u 2 i); omega) hcp dJx4a65c_fastRemove_b59b0_42 (fun H locs hB => ?_)
    rw [show sE (vN (vF (vM u 1 i (sM u 1 i + 1)) (sM u 2 i) (va_cpy (sE u (sM u 2 i)) (sE u (sM u 2 i)) (j + 1) j (gN u.2.1 3 i 0 - 1 - j))) 3 (i) (0) ((gN u.2.1 3 (i) (0)) - 1)) (sM u 2 i) = va_cpy (sE u (sM u 2 i)) (sE u (sM u 2 i)) (j + 1) j (gN u.2.1 3 i 0 - 1 - j) from by simp [vN, vF, sE, up1]] at hB
    rw [vF_vF] at hB
    replace hB : Bd env s0 X (rmF u i j) s H locs := by unfold rmF rmG; rw [if_pos (by omega)]; exact hB
    exact w_vret hF hr hlocks hB (rfl) dJx4a65c_fastRemove_b59b0_43
set_option maxHeartbeats 4000000 in
set_option maxRecDepth 100000 in
theorem c_Jx4a65c_remove_915e3 (l : Launch) (env : Ev) (s0 : Nat) (X : va_W) (u : St) (a0 : Nat) (i : Nat) (ha0 : At u 2 (i) a0) (j : Nat) (h3i : (3, sM u 2 i) ∈ sK u) (hj : j < gN u.2.1 3 i 0) (hle : gN u.2.1 3 i 0 ≤ sM u 0 (sM u 2 i)) (hcp : sM u 0 (sM u 2 i) ≤ 4096) (hel : ∀ j y, j < gN u.2.1 3 i 0 → sE u (sM u 2 i) j = some y → Obj u y) (hNb : Nb u.2.1) : Met l yJx4a65c_remove_915e3 [Cond.code yJx4a65c_remove_915e3 cJx4a65c_remove_915e3 4 (some (.object "java/lang/Object"))] { frames := 2, cells := 0, slots := 0, locals := 63 } (va_Pc [.ref (a0), .int (nI (j))] (Pr env s0 X u)) (va_Qq (fun r u' => r = sE u (sM u 2 i) j ∧ u' = rmF u i j) (Po env s0 X) (fun q => s0 ≤ q)) 0 0 (fun q => s0 ≤ q) := by
  refine Met.ofW (cc := cJx4a65c_remove_915e3) (maxL := 4) (ret := (some (.object "java/lang/Object"))) (by decide) rfl ?_
  intro p e s m args below meth c s₁ B hml hv
  obtain ⟨rfl, hv⟩ := hv
  have hx := B.exec
  have hb := B.bytes
  have hr := B.returns
  have hts : ∀ ww ∈ TT, ww.before #[.ref (a0), .int (nI (j))] s = true := fun ww hw => hv.2.1 ww hw _
  have hown : s.vm.findClass RJx4a65c = some m.cls := findClass_of_methodNamed B.named
  have hlocks := B.notSynchronized
  have hF : CallFix p m c cJx4a65c_remove_915e3 4 s #[.ref (a0), .int (nI (j))] TT RJx4a65c := ⟨hx, hb, hml, hown, hts⟩
  have hB := Bd.entry hv
  have hl := lv_entry ([.ref (a0), .int (nI (j))]) (n := 4) (Nat.le_of_ble_eq_true rfl)
  rw [lg_entry_eq]
  generalize (lg_sl ([.ref (a0), .int (nI (j))]) ++ List.replicate (4 - (lg_sl ([.ref (a0), .int (nI (j))])).length) Slot.unset).toArray = ls at hl ⊢
  have hl : lv_has ls 4 [(0, .ref (a0)), (1, .int (nI (j)))] := hl
  refine lv_iload_n hx hb dJx4a65c_remove_915e3_0 rfl (lv_at hl 1 rfl) ?_
  refine lv_aload_n hx hb dJx4a65c_remove_915e3_1 rfl (lv_at hl 0 rfl) ?_
  refine w_get (v := .int (nI (gN u.2.1 3 (i) (0)))) (fk := 2) hF hB ha0 (cn_2 env u (i)) rfl in_AL (by decide) tw_1_41 rfl rfl dJx4a65c_remove_915e3_2 ?_
  refine w_ci (r_S (As := [.int (nI (j)), .int (nI (gN u.2.1 3 (i) (0)))]) (rest := []) hF hB (c_J15_checkIndex_7cf53 l env s0 X u (j) (gN u.2.1 3 (i) (0)) hj (by have := hNb 3 i 0; omega)) cs_J15_checkIndex_7cf53 tw_2_46 ⟨rfl, rfl, by decide, by decide⟩ rfl hl.1 rfl (lv_room (by decide)) dJx4a65c_remove_915e3_5 ⟨Nat.le_of_ble_eq_true rfl, Nat.le_of_ble_eq_true rfl⟩) hB (fun r_1 u_3 H locs hq_2 hB => ?_)
  obtain ⟨rfl, rfl⟩ := hq_2
  refine lv_pop hx hb dJx4a65c_remove_915e3_8 rfl ?_
  refine lv_aload_n hx hb dJx4a65c_remove_915e3_9 rfl (lv_at hl 0 rfl) ?_
  refine w_get (v := .ref (sA u 3 (sM u 2 (i)))) (fk := 1) hF hB ha0 (cn_2 env u (i)) rfl in_AL (by decide) tw_1_40 rfl rfl dJx4a65c_remove_915e3_10 ?_
  refine lv_astore_n (lv' := [(2, .ref (sA u 3 (sM u 2 (i)))), (0, .ref (a0)), (1, .int (nI (j)))]) hx hb dJx4a65c_remove_915e3_13 rfl hl (by decide) rfl (fun ls hl => ?_)
  refine lv_aload_n hx hb dJx4a65c_remove_915e3_14 rfl (lv_at hl 0 rfl) ?_
  refine lv_iload_n hx hb dJx4a65c_remove_915e3_15 rfl (lv_at hl 2 rfl) ?_
  refine w_aldO hF hB ⟨h3i, rfl⟩ (cn_3 env u (sM u 2 (i))) (by omega) rfl (by omega) dJx4a65c_remove_915e3_16 ?_
  refine lv_astoreQ (lv' := [(3, va_rf (sE u (sM u 2 (i)) (j))), (2, .ref (sA u 3 (sM u 2 (i)))), (0, .ref (a0)), (1, .int (nI (j)))]) hx hb dJx4a65c_remove_915e3_17 rfl hl (by decide) rfl (fun ls hl => ?_)
  refine lv_aload_n hx hb dJx4a65c_remove_915e3_18 rfl (lv_at hl 2 rfl) ?_
  refine lv_aload_n hx hb dJx4a65c_remove_915e3_19 rfl (lv_at hl 1 rfl) ?_
  refine lv_iload_n hx hb dJx4a65c_remove_915e3_20 rfl (lv_at hl 3 rfl) ?_
  refine w_cv (r_V (As := [.ref (sA u 3 (sM u 2 (i))), .int (nI (j))]) (rest := []) hF hB (c_Jx4a65c_fastRemove_b59b0 l env s0 X u (a0) (i) (ha0) (j) h3i hj hle hcp hel hNb) cv_Jx4a65c_fastRemove_b59b0 tw_2_217 ⟨rfl, rfl, by decide, by decide⟩ (hB.recv ha0 (cn_2 env u (i)) rfl) rfl hl.1 rfl (lv_room (by decide)) dJx4a65c_remove_915e3_21 ⟨Nat.le_of_ble_eq_true rfl, Nat.le_of_ble_eq_true rfl⟩) hB (fun u_6 H locs hq_5 hB => ?_)
  obtain rfl := hq_5
  refine lv_aloadQ hx hb dJx4a65c_remove_915e3_24 rfl (lv_at hl 0 rfl) ?_
  exact w_aret (r := sE u (sM u 2 (i)) (j)) rfl hF hr (by first | exact Or.inl ⟨_, rfl⟩ | exact Or.inr ⟨_, rfl⟩) hlocks hB (⟨rfl, rfl⟩) dJx4a65c_remove_915e3_25

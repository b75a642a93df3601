set_option maxHeartbeats 4000000 in
set_option maxRecDepth 100000 in
theorem c_Jx4a65c_grow_92f84 (l : Launch) (env : Ev) (s0 : Nat) (X : va_W) (u : St) (a0 : Nat) (i : Nat) (ha0 : At u 2 (i) a0) (mn : Nat) (h3 : (3, sM u 3 0) ∉ sK u) (h2 : ∀ i, (2, i) ∈ sK u → sM u 2 i ≠ sM u 3 0) (hd1 : 0 < sM u 0 (sM u 2 i) → (3, sM u 2 i) ∈ sK u) (hd0 : sM u 0 (sM u 2 i) = 0 → sA u 3 (sM u 2 i) = env.2.2.1) (hsz : gN u.2.1 3 i 0 ≤ 2400) (hle : gN u.2.1 3 i 0 ≤ sM u 0 (sM u 2 i)) (hcp : sM u 0 (sM u 2 i) ≤ 4096) (hel : ∀ j y, j < gN u.2.1 3 i 0 → sE u (sM u 2 i) j = some y → Obj u y) (zz : Nat) (hzz : gN u.2.1 3 i 0 + gN u.2.1 3 i 0 + 10 ≤ zz) (hfu : gN u.2.1 3 i 0 = sM u 0 (sM u 2 i)) (hmn : mn = gN u.2.1 3 i 0 + 1) : Met l yJx4a65c_grow_92f84 [Cond.code yJx4a65c_grow_92f84 cJx4a65c_grow_92f84 4 (some (.array (.object "java/lang/Object")))] { frames := 3, cells := 1, slots := zz, locals := 84 } (va_Pc [.ref (a0), .int (nI (mn))] (Pr env s0 X u)) (va_Qq (fun r u' => ∃ q, r = some q ∧ u' = gr u i q) (Po env s0 X) (fun q => s0 ≤ q)) 1 zz (fun q => s0 ≤ q) := by
  refine Met.ofW (cc := cJx4a65c_grow_92f84) (maxL := 4) (ret := (some (.array (.object "java/lang/Object")))) (by decide) rfl ?_
  intro p e s m args below meth c s₁ B hml hv
  obtain ⟨rfl, hv⟩ := hv
  have hx := B.exec
  have hb := B.bytes
  have hr := B.returns
  have hts : ∀ ww ∈ TT, ww.before #[.ref (a0), .int (nI (mn))] s = true := fun ww hw => hv.2.1 ww hw _
  have hown : s.vm.findClass RJx4a65c = some m.cls := findClass_of_methodNamed B.named
  have hlocks := B.notSynchronized
  have hF : CallFix p m c cJx4a65c_grow_92f84 4 s #[.ref (a0), .int (nI (mn))] TT RJx4a65c := ⟨hx, hb, hml, hown, hts⟩
  have hB := Bd.entry hv
  have hl := lv_entry ([.ref (a0), .int (nI (mn))]) (n := 4) (Nat.le_of_ble_eq_true rfl)
  rw [lg_entry_eq]
  generalize (lg_sl ([.ref (a0), .int (nI (mn))]) ++ List.replicate (4 - (lg_sl ([.ref (a0), .int (nI (mn))])).length) Slot.unset).toArray = ls at hl ⊢
  have hl : lv_has ls 4 [(0, .ref (a0)), (1, .int (nI (mn)))] := hl
  have hgc : gCap u i ≤ zz ∧ gCap u i ≤ 4096 := by unfold gCap; split <;> omega
  rcases Nat.eq_zero_or_pos (sM u 0 (sM u 2 i)) with hz | hz
  · have hde := hd0 hz
    refine lv_aload_n hx hb dJx4a65c_grow_92f84_0 rfl (lv_at hl 0 rfl) ?_
    refine w_get (v := .ref (sA u 3 (sM u 2 (i)))) (fk := 1) hF hB ha0 (cn_2 env u (i)) rfl in_AL (by decide) tw_1_40 rfl rfl dJx4a65c_grow_92f84_1 ?_
    refine w_alD hF hB hde dJx4a65c_grow_92f84_4 ?_
    refine lv_istore_n (lv' := [(2, .int (nI (0))), (0, .ref (a0)), (1, .int (nI (mn)))]) hx hb dJx4a65c_grow_92f84_5 rfl hl (by decide) rfl (fun ls hl => ?_)
    refine lv_iload_n hx hb dJx4a65c_grow_92f84_6 rfl (lv_at hl 0 rfl) ?_
    refine w_ifgt_n (tgt := 20) (by decide) hx hb dJx4a65c_grow_92f84_7 (by decide) (fun c => absurd c (by decide)) (fun _ => ?_)
    refine lv_aload_n hx hb dJx4a65c_grow_92f84_10 rfl (lv_at hl 1 rfl) ?_
    refine w_get (v := .ref (sA u 3 (sM u 2 (i)))) (fk := 1) hF hB ha0 (cn_2 env u (i)) rfl in_AL (by decide) tw_1_40 rfl rfl dJx4a65c_grow_92f84_11 ?_
    refine w_defs hF hB tw_1_38 dJx4a65c_grow_92f84_14 ?_
    refine w_acmp_eq (tgt := 45) hx hb dJx4a65c_grow_92f84_17 (by decide) (fun _ => ?_) (fun c => absurd hde c)
    refine lv_aload_n hx hb dJx4a65c_grow_92f84_45 rfl (lv_at hl 1 rfl) ?_
    refine lv_bipush (v := nI 10) hx hb dJx4a65c_grow_92f84_46 (by decide) ?_
    refine lv_iload_n hx hb dJx4a65c_grow_92f84_48 rfl (lv_at hl 2 rfl) ?_
    refine w_mmax hF hB hl.1 (by omega) (by omega) tw_1_193 tw_1_161 tw_1_10 tw_1_162 (Nat.le_of_ble_eq_true rfl) (Nat.le_of_ble_eq_true rfl) (Nat.zero_le _) (Nat.zero_le _) dJx4a65c_grow_92f84_49 ?_
    rw [show max 10 mn = 10 by omega]
    refine w_newO hF hB tw_1_194 tw_1_185 (by decide) h3 h2 (Nat.le_of_ble_eq_true rfl) (by show 0 + 10 ≤ zz; omega) dJx4a65c_grow_92f84_52 (fun q H hB => ?_)
    refine lv_dup_x1 hx hb dJx4a65c_grow_92f84_55 rfl rfl ?_
    refine w_putEQ (z := sM u 3 0) hF hB (At.newO h3 h2 ha0) At.newz.2 tw_1_40 dJx4a65c_grow_92f84_56 (fun H locs hB => ?_)
    replace hB : Bd env s0 X (gr u i q) s H locs := by unfold gr; rw [if_pos hz]; exact hB
    refine W.widen (k := 1) (n := zz) (Nat.le_of_ble_eq_true rfl) (by show _ ≤ zz; omega) ?_
    exact w_aret (r := some (q)) rfl hF hr (by first | exact Or.inl ⟨_, rfl⟩ | exact Or.inr ⟨_, rfl⟩) hlocks hB (⟨q, rfl, rfl⟩) dJx4a65c_grow_92f84_59
  · have h3i := hd1 hz
    refine lv_aload_n hx hb dJx4a65c_grow_92f84_0 rfl (lv_at hl 0 rfl) ?_
    refine w_get (v := .ref (sA u 3 (sM u 2 (i)))) (fk := 1) hF hB ha0 (cn_2 env u (i)) rfl in_AL (by decide) tw_1_40 rfl rfl dJx4a65c_grow_92f84_1 ?_
    refine w_alO (n := sM u 0 (sM u 2 i)) hF hB ⟨h3i, rfl⟩ rfl dJx4a65c_grow_92f84_4 ?_
    refine lv_istore_n (lv' := [(2, .int (nI (sM u 0 (sM u 2 i)))), (0, .ref (a0)), (1, .int (nI (mn)))]) hx hb dJx4a65c_grow_92f84_5 rfl hl (by decide) rfl (fun ls hl => ?_)
    refine lv_iload_n hx hb dJx4a65c_grow_92f84_6 rfl (lv_at hl 0 rfl) ?_
    refine w_ifgt_n (tgt := 20) (by omega) hx hb dJx4a65c_grow_92f84_7 (by decide) (fun _ => ?_) (fun c => absurd c (by omega))
    refine lv_iload_n hx hb dJx4a65c_grow_92f84_20 rfl (lv_at hl 0 rfl) ?_
    refine lv_iload_n hx hb dJx4a65c_grow_92f84_21 rfl (lv_at hl 2 rfl) ?_
    refine lv_iload_n hx hb dJx4a65c_grow_92f84_22 rfl (lv_at hl 0 rfl) ?_
    refine w_isub_n (by omega) hx hb dJx4a65c_grow_92f84_23 ?_
    refine lv_iload_n hx hb dJx4a65c_grow_92f84_24 rfl (lv_at hl 0 rfl) ?_
    refine lv_iconst (v := nI 1) hx hb dJx4a65c_grow_92f84_25 (by decide) ?_
    refine w_ishr1 (by omega) hx hb dJx4a65c_grow_92f84_26 ?_
    refine w_ci (r_S (As := [.int (nI (sM u 0 (sM u 2 i))), .int (nI (mn - (sM u 0 (sM u 2 i)))), .int (nI ((sM u 0 (sM u 2 i)) / 2))]) (rest := []) hF hB (c_J8_newLength_cabcc l env s0 X u (sM u 0 (sM u 2 i)) (mn - (sM u 0 (sM u 2 i))) ((sM u 0 (sM u 2 i)) / 2) (by omega) (by omega) (by omega) (by omega)) cs_J8_newLength_cabcc tw_1_157 ⟨rfl, rfl, Nat.le_of_ble_eq_true rfl, Nat.le_of_ble_eq_true rfl⟩ rfl hl.1 rfl (lv_room (by decide)) dJx4a65c_grow_92f84_27 ⟨Nat.le_of_ble_eq_true rfl, (by show 0 + 0 ≤ zz; omega)⟩) hB (fun r_1 u_3 H locs hq_2 hB => ?_)
    obtain ⟨rfl, rfl⟩ := hq_2
    rw [show (sM u 0 (sM u 2 i)) + max (mn - (sM u 0 (sM u 2 i))) ((sM u 0 (sM u 2 i)) / 2) = gCap u i from by unfold gCap; rw [if_neg (by omega), show mn - sM u 0 (sM u 2 i) = 1 by omega]]
    refine lv_istore_n (lv' := [(3, .int (nI (gCap u i))), (2, .int (nI (sM u 0 (sM u 2 i)))), (0, .ref (a0)), (1, .int (nI (mn)))]) hx hb dJx4a65c_grow_92f84_30 rfl hl (by decide) rfl (fun ls hl => ?_)
    refine lv_aload_n hx hb dJx4a65c_grow_92f84_31 rfl (lv_at hl 2 rfl) ?_
    refine lv_aload_n hx hb dJx4a65c_grow_92f84_32 rfl (lv_at hl 2 rfl) ?_
    refine w_get (v := .ref (sA u 3 (sM u 2 (i)))) (fk := 1) hF hB ha0 (cn_2 env u (i)) rfl in_AL (by decide) tw_1_40 rfl rfl dJx4a65c_grow_92f84_33 ?_
    refine lv_iload_n hx hb dJx4a65c_grow_92f84_36 rfl (lv_at hl 0 rfl) ?_
    refine w_cq (r_S (As := [.ref (sA u 3 (sM u 2 (i))), .int (nI (gCap u i))]) (rest := [.ref (a0)]) hF hB (c_J7_copyOf_1904c l env s0 X u (sA u 3 (sM u 2 (i))) (sM u 2 (i)) (⟨h3i, rfl⟩) (gCap u i) h3 h2 hgc.2 hcp (fun j y hj => hel j y (by omega)) zz hgc.1) cs_J7_copyOf_1904c tw_1_167 ⟨rfl, rfl, Nat.le_of_ble_eq_true rfl, Nat.le_of_ble_eq_true rfl⟩ rfl hl.1 rfl (lv_room (Nat.le_of_ble_eq_true rfl)) dJx4a65c_grow_92f84_37 ⟨Nat.le_of_ble_eq_true rfl, (by show 0 + 0 + zz ≤ zz; omega)⟩) hB (fun r_4 u_6 H locs hq_5 hB => ?_)
    obtain ⟨q, rfl, rfl⟩ := hq_5
    show W p l e _ s m _ below meth c H locs _ _ _ (F0 m _ ls [.ref (q), .ref (a0)])
    refine lv_dup_x1 hx hb dJx4a65c_grow_92f84_40 rfl rfl ?_
    refine w_putEQ (z := sM u 3 0) hF hB (show At (cpO u (sM u 2 i) q (gCap u i)) _ _ _ from At.newO (q := q) (n := gCap u i) h3 h2 ha0) (show At (cpO u (sM u 2 i) q (gCap u i)) 3 (sM u 3 0) q from At.newz (n := gCap u i)).2 tw_1_40 dJx4a65c_grow_92f84_41 (fun H locs hB => ?_)
    replace hB : Bd env s0 X (gr u i q) s H locs := by unfold gr; rw [if_neg (by omega)]; exact hB
    refine W.widen (k := 1) (n := zz) (Nat.le_of_ble_eq_true rfl) (by show _ ≤ zz; omega) ?_
    exact w_aret (r := some (q)) rfl hF hr (by first | exact Or.inl ⟨_, rfl⟩ | exact Or.inr ⟨_, rfl⟩) hlocks hB (⟨q, rfl, rfl⟩) dJx4a65c_grow_92f84_44
set_option maxHeartbeats 4000000 in
set_option maxRecDepth 100000 in
theorem c_Jx4a65c_grow_d5877 (l : Launch) (env : Ev) (s0 : Nat) (X : va_W) (u : St) (a0 : Nat) (i : Nat) (ha0 : At u 2 (i) a0) (h3 : (3, sM u 3 0) ∉ sK u) (h2 : ∀ i, (2, i) ∈ sK u → sM u 2 i ≠ sM u 3 0) (hd1 : 0 < sM u 0 (sM u 2 i) → (3, sM u 2 i) ∈ sK u) (hd0 : sM u 0 (sM u 2 i) = 0 → sA u 3 (sM u 2 i) = env.2.2.1) (hsz : gN u.2.1 3 i 0 ≤ 2400) (hle : gN u.2.1 3 i 0 ≤ sM u 0 (sM u 2 i)) (hcp : sM u 0 (sM u 2 i) ≤ 4096) (hel : ∀ j y, j < gN u.2.1 3 i 0 → sE u (sM u 2 i) j = some y → Obj u y) (zz : Nat) (hzz : gN u.2.1 3 i 0 + gN u.2.1 3 i 0 + 10 ≤ zz) (hfu : gN u.2.1 3 i 0 = sM u 0 (sM u 2 i)) : Met l yJx4a65c_grow_d5877 [Cond.code yJx4a65c_grow_d5877 cJx4a65c_grow_d5877 1 (some (.array (.object "java/lang/Object")))] { frames := 4, cells := 1, slots := zz, locals := 107 } (va_Pc [.ref (a0)] (Pr env s0 X u)) (va_Qq (fun r u' => ∃ q, r = some q ∧ u' = gr u i q) (Po env s0 X) (fun q => s0 ≤ q)) 1 zz (fun q => s0 ≤ q) := by
  refine Met.ofW (cc := cJx4a65c_grow_d5877) (maxL := 1) (ret := (some (.array (.object "java/lang/Object")))) (by decide) rfl ?_
  intro p e s m args below meth c s₁ B hml hv
  obtain ⟨rfl, hv⟩ := hv
  have hx := B.exec
  have hb := B.bytes
  have hr := B.returns
  have hts : ∀ ww ∈ TT, ww.before #[.ref (a0)] s = true := fun ww hw => hv.2.1 ww hw _
  have hown : s.vm.findClass RJx4a65c = some m.cls := findClass_of_methodNamed B.named
  have hlocks := B.notSynchronized
  have hF : CallFix p m c cJx4a65c_grow_d5877 1 s #[.ref (a0)] TT RJx4a65c := ⟨hx, hb, hml, hown, hts⟩
  have hB := Bd.entry hv
  have hl := lv_entry ([.ref (a0)]) (n := 1) (Nat.le_of_ble_eq_true rfl)
  rw [lg_entry_eq]
  generalize (lg_sl ([.ref (a0)]) ++ List.replicate (1 - (lg_sl ([.ref (a0)])).length) Slot.unset).toArray = ls at hl ⊢
  have hl : lv_has ls 1 [(0, .ref (a0))] := hl
  refine lv_aload_n hx hb dJx4a65c_grow_d5877_0 rfl (lv_at hl 0 rfl) ?_
  refine lv_aload_n hx hb dJx4a65c_grow_d5877_1 rfl (lv_at hl 0 rfl) ?_
  refine w_get (v := .int (nI (gN u.2.1 3 (i) (0)))) (fk := 2) hF hB ha0 (cn_2 env u (i)) rfl in_AL (by decide) tw_1_41 rfl rfl dJx4a65c_grow_d5877_2 ?_
  refine lv_iconst (v := nI 1) hx hb dJx4a65c_grow_d5877_5 (by decide) ?_
  refine w_iadd_n hx hb dJx4a65c_grow_d5877_6 ?_
  refine w_cq (r_V (As := [.int (nI ((gN u.2.1 3 (i) (0)) + 1))]) (rest := []) hF hB (c_Jx4a65c_grow_92f84 l env s0 X u (a0) (i) (ha0) ((gN u.2.1 3 (i) (0)) + 1) h3 h2 hd1 hd0 hsz hle hcp hel zz hzz hfu rfl) cv_Jx4a65c_grow_92f84 tw_1_153 ⟨rfl, rfl, Nat.le_of_ble_eq_true rfl, Nat.le_of_ble_eq_true rfl⟩ (hB.recv ha0 (cn_2 env u (i)) rfl) rfl hl.1 rfl (lv_room (by decide)) dJx4a65c_grow_d5877_7 ⟨Nat.le_of_ble_eq_true rfl, (by show 0 + zz ≤ zz; omega)⟩) hB (fun r_1 u_3 H locs hq_2 hB => ?_)
  obtain ⟨q, rfl, rfl⟩ := hq_2
  show W p l e _ s m _ below meth c H locs _ _ _ (F0 m _ ls [.ref (q)])
  refine W.widen (k := 1) (n := zz) (Nat.le_of_ble_eq_true rfl) (by show _ ≤ zz; omega) ?_
  exact w_aret (r := some (q)) rfl hF hr (by first | exact Or.inl ⟨_, rfl⟩ | exact Or.inr ⟨_, rfl⟩) hlocks hB (⟨q, rfl, rfl⟩) dJx4a65c_grow_d5877_10

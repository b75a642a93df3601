set_option maxHeartbeats 4000000 in
set_option maxRecDepth 100000 in
theorem c_X5_init (l : Launch) (env : Ev) (s0 : Nat) (X : va_W) (u : St) (a0 : Nat) (hm : u.2.2 = m01) (hZ : SZ env u) (hk : ∀ k i, (k, i) ∈ sK u → k < 20) : Met l yX5_init [Cond.code yX5_init cX5_init 2 none] { frames := 1, cells := 22, slots := 32192, locals := 12 } (va_Pc [.ref (a0)] (Pr env s0 ((a0, .inr (6, [.int 0, .int 0, .int 0, .null, .null, .int 0, .null, .null, .null, .null, .null, .null, .null, .null, .null, .null, .null, .null, .null, .null, .null, .null, .int 0, .null, .null, .null, .null])) :: X) u)) (va_Qv (fun u' => ∃ ph, u' = (ph, u.2.1, mInit) ∧ SZ env u' ∧ Kp u u' ∧ MI u' ∧ At u' 20 0 a0) (Po env s0 X) (fun q => s0 ≤ q)) 22 32192 (fun q => s0 ≤ q) := by
  refine Met.ofW (cc := cX5_init) (maxL := 2) (ret := none) (by decide) rfl ?_
  intro p e s m args below meth c s₁ B hml hv
  obtain ⟨rfl, hv⟩ := hv
  have hx := B.exec
  have hb := B.bytes
  have hr := B.returns
  have hts : ∀ ww ∈ TT, ww.before #[.ref (a0)] s = true := fun ww hw => hv.2.1 ww hw _
  have hown : s.vm.findClass RX5 = some m.cls := findClass_of_methodNamed B.named
  have hlocks := B.notSynchronized
  have hin : meth.name = "<init>" := (name_of_methodNamed B.named B.method).1
  have hF : CallFix p m c cX5_init 2 s #[.ref (a0)] TT RX5 := ⟨hx, hb, hml, hown, hts⟩
  have hB := Bd.entry hv
  have hl := lv_entry ([.ref (a0)]) (n := 2) (Nat.le_of_ble_eq_true rfl)
  rw [lg_entry_eq]
  generalize (lg_sl ([.ref (a0)]) ++ List.replicate (2 - (lg_sl ([.ref (a0)])).length) Slot.unset).toArray = ls at hl ⊢
  have hl : lv_has ls 2 [(0, .ref (a0))] := hl
  have hk0 : ∀ k i, (k, i) ∈ sK u → k < 20 ∨ (21 ≤ k ∧ k ≤ 20 ∧ i = 0) := fun k i h => Or.inl (hk k i h)
  have h20 : u.2 = (u.2.1, m01) := by rw [← hm]
  have hZ0 := hZ
  have hK0 := Kp.rf u
  refine lv_aload_n hx hb dX5_init_0 rfl (lv_at hl 0 rfl) ?_
  refine W.objInit hx hb hown (hts _ tw_3_94) (hts _ tw_1_22) (hts _ tw_1_23) rfl (by rw [hml]; exact hl.1) rfl dX5_init_1 (Nat.le_of_ble_eq_true rfl) (Nat.le_of_ble_eq_true rfl) ?_
  refine W.eq (g2 := F0 m 4 ls []) rfl ?_
  refine lv_aload_n hx hb dX5_init_4 rfl (lv_at hl 0 rfl) ?_
  refine lv_iconst (v := nI 3) hx hb dX5_init_5 (by decide) ?_
  refine w_putY (fk := 0) (v := .int (nI (3))) (ty := .int) [.int (nI (3)), .int 0, .int 0, .null, .null, .int 0, .null, .null, .null, .null, .null, .null, .null, .null, .null, .null, .null, .null, .null, .null, .null, .null, .int 0, .null, .null, .null, .null] hF hB rfl in_X5 tyX5 tyX5_ok nmX5 (by decide) tw_3_95 (fun _ h => h) rfl (by decide +kernel) rfl rfl (Nat.le_of_ble_eq_true rfl) rfl dX5_init_6 (fun H locs hB => ?_)
  refine lv_aload_n hx hb dX5_init_9 rfl (lv_at hl 0 rfl) ?_
  refine lv_iconst (v := nI 1) hx hb dX5_init_10 (by decide) ?_
  refine w_putY (fk := 1) (v := .int (nI (1))) (ty := .int) [.int (nI (3)), .int (nI (1)), .int 0, .null, .null, .int 0, .null, .null, .null, .null, .null, .null, .null, .null, .null, .null, .null, .null, .null, .null, .null, .null, .int 0, .null, .null, .null, .null] hF hB rfl in_X5 tyX5 tyX5_ok nmX5 (by decide) tw_3_96 (fun _ h => h) rfl (by decide +kernel) rfl rfl (Nat.le_of_ble_eq_true rfl) rfl dX5_init_11 (fun H locs hB => ?_)
  refine lv_aload_n hx hb dX5_init_14 rfl (lv_at hl 0 rfl) ?_
  refine lv_bipush (v := nI 12) hx hb dX5_init_15 (by decide) ?_
  refine w_newI hF hB tw_1_80 (by decide) (Nat.le_of_ble_eq_true rfl) (Nat.le_of_ble_eq_true rfl) dX5_init_17 (fun q_homes H hB => ?_)
  replace hB := Bd.absorb (u' := mkK u 24 0 q_homes) (k := 24) (i := 0) hB rfl (mkK_A _ _ _ _) (by rw [cn_24]; show (.inl (env.2.1 0, 12, .inl (fun j => nI (gN (mkK u 24 0 q_homes).2.2 53 0 j))) : va_E) = _; rw [show (mkK u 24 0 q_homes).2 = (u.2.1, m01) from h20]; rfl) (cn_mkM2 (by decide) (fun h => by have := hk0 _ _ h; omega) (fun h => by have := hk0 _ _ h; omega) (fun i h => by have := hk0 _ _ h; omega))
  obtain ⟨u1, hu1⟩ : ∃ z, z = mkK u 24 0 q_homes := ⟨_, rfl⟩
  rw [← hu1] at hB
  have hk1 : ∀ k i, (k, i) ∈ sK u1 → k < 20 ∨ (21 ≤ k ∧ k ≤ 24 ∧ i = 0) := by intro k i h; rw [hu1, mkK_m] at h; rcases h with h | h; (have := hk0 _ _ h; omega); omega
  have h21 : u1.2 = (u.2.1, m01) := by rw [hu1]; exact h20
  have hZ1 : SZ env u1 := by rw [hu1]; exact SZ.k20 hZ0 (by decide)
  have hK1 : Kp u u1 := by rw [hu1]; exact Kp.tr hK0 (Kp.k (fun h => by have := hk0 _ _ h; omega))
  refine w_putX (fk := 3) (v := .ref (q_homes)) (ty := (.array .int)) [.int (nI (3)), .int (nI (1)), .int 0, .ref (q_homes), .null, .int 0, .null, .null, .null, .null, .null, .null, .null, .null, .null, .null, .null, .null, .null, .null, .null, .null, .int 0, .null, .null, .null, .null] hF hB rfl in_X5 tyX5 tyX5_ok nmX5 (by decide) tw_3_98 (fun _ h => h) rfl hin rfl (by decide +kernel) rfl rfl (Nat.le_of_ble_eq_true rfl) rfl dX5_init_19 (fun H locs hB => ?_)
  refine lv_aload_n hx hb dX5_init_22 rfl (lv_at hl 0 rfl) ?_
  refine lv_bipush (v := nI 12) hx hb dX5_init_23 (by decide) ?_
  refine w_newZ hF hB tw_2_32 (by decide) (Nat.le_of_ble_eq_true rfl) (Nat.le_of_ble_eq_true rfl) dX5_init_25 (fun q_sets H hB => ?_)
  replace hB := Bd.absorb (u' := mkK u1 25 0 q_sets) (k := 25) (i := 0) hB rfl (mkK_A _ _ _ _) (by rw [cn_25]; show (.inl (env.2.1 2, 12, .inl (fun j => b2i (gB (mkK u1 25 0 q_sets).2.2 54 0 j))) : va_E) = _; rw [show (mkK u1 25 0 q_sets).2 = (u.2.1, m01) from h21]; rfl) (cn_mkM2 (by decide) (fun h => by have := hk1 _ _ h; omega) (fun h => by have := hk1 _ _ h; omega) (fun i h => by have := hk1 _ _ h; omega))
  obtain ⟨u2, hu2⟩ : ∃ z, z = mkK u1 25 0 q_sets := ⟨_, rfl⟩
  rw [← hu2] at hB
  have hk2 : ∀ k i, (k, i) ∈ sK u2 → k < 20 ∨ (21 ≤ k ∧ k ≤ 25 ∧ i = 0) := by intro k i h; rw [hu2, mkK_m] at h; rcases h with h | h; (have := hk1 _ _ h; omega); omega
  have h22 : u2.2 = (u.2.1, m01) := by rw [hu2]; exact h21
  have hZ2 : SZ env u2 := by rw [hu2]; exact SZ.k20 hZ1 (by decide)
  have hK2 : Kp u u2 := by rw [hu2]; exact Kp.tr hK1 (Kp.k (fun h => by have := hk1 _ _ h; omega))
  refine w_putX (fk := 4) (v := .ref (q_sets)) (ty := (.array .boolean)) [.int (nI (3)), .int (nI (1)), .int 0, .ref (q_homes), .ref (q_sets), .int 0, .null, .null, .null, .null, .null, .null, .null, .null, .null, .null, .null, .null, .null, .null, .null, .null, .int 0, .null, .null, .null, .null] hF hB rfl in_X5 tyX5 tyX5_ok nmX5 (by decide) tw_3_99 (fun _ h => h) rfl hin rfl (by decide +kernel) rfl rfl (Nat.le_of_ble_eq_true rfl) rfl dX5_init_27 (fun H locs hB => ?_)
  refine lv_aload_n hx hb dX5_init_30 rfl (lv_at hl 0 rfl) ?_
  refine lv_sipush (v := nI 150) hx hb dX5_init_31 (by decide) ?_
  refine w_newI hF hB tw_1_80 (by decide) (Nat.le_of_ble_eq_true rfl) (Nat.le_of_ble_eq_true rfl) dX5_init_34 (fun q_sites H hB => ?_)
  replace hB := Bd.absorb (u' := mkK u2 27 0 q_sites) (k := 27) (i := 0) hB rfl (mkK_A _ _ _ _) (by rw [cn_27]; show (.inl (env.2.1 0, 150, .inl (fun j => nI (gN (mkK u2 27 0 q_sites).2.2 56 0 j))) : va_E) = _; rw [show (mkK u2 27 0 q_sites).2 = (u.2.1, m01) from h22]; rfl) (cn_mkM2 (by decide) (fun h => by have := hk2 _ _ h; omega) (fun h => by have := hk2 _ _ h; omega) (fun i h => by have := hk2 _ _ h; omega))
  obtain ⟨u3, hu3⟩ : ∃ z, z = mkK u2 27 0 q_sites := ⟨_, rfl⟩
  rw [← hu3] at hB
  have hk3 : ∀ k i, (k, i) ∈ sK u3 → k < 20 ∨ (21 ≤ k ∧ k ≤ 27 ∧ i = 0) := by intro k i h; rw [hu3, mkK_m] at h; rcases h with h | h; (have := hk2 _ _ h; omega); omega
  have h23 : u3.2 = (u.2.1, m01) := by rw [hu3]; exact h22
  have hZ3 : SZ env u3 := by rw [hu3]; exact SZ.k20 hZ2 (by decide)
  have hK3 : Kp u u3 := by rw [hu3]; exact Kp.tr hK2 (Kp.k (fun h => by have := hk2 _ _ h; omega))
  refine w_putX (fk := 6) (v := .ref (q_sites)) (ty := (.array .int)) [.int (nI (3)), .int (nI (1)), .int 0, .ref (q_homes), .ref (q_sets), .int 0, .ref (q_sites), .null, .null, .null, .null, .null, .null, .null, .null, .null, .null, .null, .null, .null, .null, .null, .int 0, .null, .null, .null, .null] hF hB rfl in_X5 tyX5 tyX5_ok nmX5 (by decide) tw_3_101 (fun _ h => h) rfl hin rfl (by decide +kernel) rfl rfl (Nat.le_of_ble_eq_true rfl) rfl dX5_init_36 (fun H locs hB => ?_)
  refine lv_aload_n hx hb dX5_init_39 rfl (lv_at hl 0 rfl) ?_
  refine lv_sipush (v := nI 150) hx hb dX5_init_40 (by decide) ?_
  refine w_newI hF hB tw_1_80 (by decide) (Nat.le_of_ble_eq_true rfl) (Nat.le_of_ble_eq_true rfl) dX5_init_43 (fun q_states H hB => ?_)
  replace hB := Bd.absorb (u' := mkK u3 28 0 q_states) (k := 28) (i := 0) hB rfl (mkK_A _ _ _ _) (by rw [cn_28]; show (.inl (env.2.1 0, 150, .inl (fun j => nI (gN (mkK u3 28 0 q_states).2.2 57 0 j))) : va_E) = _; rw [show (mkK u3 28 0 q_states).2 = (u.2.1, m01) from h23]; rfl) (cn_mkM2 (by decide) (fun h => by have := hk3 _ _ h; omega) (fun h => by have := hk3 _ _ h; omega) (fun i h => by have := hk3 _ _ h; omega))
  obtain ⟨u4, hu4⟩ : ∃ z, z = mkK u3 28 0 q_states := ⟨_, rfl⟩
  rw [← hu4] at hB
  have hk4 : ∀ k i, (k, i) ∈ sK u4 → k < 20 ∨ (21 ≤ k ∧ k ≤ 28 ∧ i = 0) := by intro k i h; rw [hu4, mkK_m] at h; rcases h with h | h; (have := hk3 _ _ h; omega); omega
  have h24 : u4.2 = (u.2.1, m01) := by rw [hu4]; exact h23
  have hZ4 : SZ env u4 := by rw [hu4]; exact SZ.k20 hZ3 (by decide)
  have hK4 : Kp u u4 := by rw [hu4]; exact Kp.tr hK3 (Kp.k (fun h => by have := hk3 _ _ h; omega))
  refine w_putX (fk := 7) (v := .ref (q_states)) (ty := (.array .int)) [.int (nI (3)), .int (nI (1)), .int 0, .ref (q_homes), .ref (q_sets), .int 0, .ref (q_sites), .ref (q_states), .null, .null, .null, .null, .null, .null, .null, .null, .null, .null, .null, .null, .null, .null, .int 0, .null, .null, .null, .null] hF hB rfl in_X5 tyX5 tyX5_ok nmX5 (by decide) tw_3_102 (fun _ h => h) rfl hin rfl (by decide +kernel) rfl rfl (Nat.le_of_ble_eq_true rfl) rfl dX5_init_45 (fun H locs hB => ?_)
  refine lv_aload_n hx hb dX5_init_48 rfl (lv_at hl 0 rfl) ?_
  refine lv_sipush (v := nI 600) hx hb dX5_init_49 (by decide) ?_
  refine w_newI hF hB tw_1_80 (by decide) (Nat.le_of_ble_eq_true rfl) (Nat.le_of_ble_eq_true rfl) dX5_init_52 (fun q_starts H hB => ?_)
  replace hB := Bd.absorb (u' := mkK u4 29 0 q_starts) (k := 29) (i := 0) hB rfl (mkK_A _ _ _ _) (by rw [cn_29]; show (.inl (env.2.1 0, 600, .inl (fun j => nI (gN (mkK u4 29 0 q_starts).2.2 58 0 j))) : va_E) = _; rw [show (mkK u4 29 0 q_starts).2 = (u.2.1, m01) from h24]; rfl) (cn_mkM2 (by decide) (fun h => by have := hk4 _ _ h; omega) (fun h => by have := hk4 _ _ h; omega) (fun i h => by have := hk4 _ _ h; omega))
  obtain ⟨u5, hu5⟩ : ∃ z, z = mkK u4 29 0 q_starts := ⟨_, rfl⟩
  rw [← hu5] at hB
  have hk5 : ∀ k i, (k, i) ∈ sK u5 → k < 20 ∨ (21 ≤ k ∧ k ≤ 29 ∧ i = 0) := by intro k i h; rw [hu5, mkK_m] at h; rcases h with h | h; (have := hk4 _ _ h; omega); omega
  have h25 : u5.2 = (u.2.1, m01) := by rw [hu5]; exact h24
  have hZ5 : SZ env u5 := by rw [hu5]; exact SZ.k20 hZ4 (by decide)
  have hK5 : Kp u u5 := by rw [hu5]; exact Kp.tr hK4 (Kp.k (fun h => by have := hk4 _ _ h; omega))
  refine w_putX (fk := 8) (v := .ref (q_starts)) (ty := (.array .int)) [.int (nI (3)), .int (nI (1)), .int 0, .ref (q_homes), .ref (q_sets), .int 0, .ref (q_sites), .ref (q_states), .ref (q_starts), .null, .null, .null, .null, .null, .null, .null, .null, .null, .null, .null, .null, .null, .int 0, .null, .null, .null, .null] hF hB rfl in_X5 tyX5 tyX5_ok nmX5 (by decide) tw_3_103 (fun _ h => h) rfl hin rfl (by decide +kernel) rfl rfl (Nat.le_of_ble_eq_true rfl) rfl dX5_init_54 (fun H locs hB => ?_)
  refine lv_aload_n hx hb dX5_init_57 rfl (lv_at hl 0 rfl) ?_
  refine lv_sipush (v := nI 150) hx hb dX5_init_58 (by decide) ?_
  refine w_newI hF hB tw_1_80 (by decide) (Nat.le_of_ble_eq_true rfl) (Nat.le_of_ble_eq_true rfl) dX5_init_61 (fun q_commits H hB => ?_)
  replace hB := Bd.absorb (u' := mkK u5 30 0 q_commits) (k := 30) (i := 0) hB rfl (mkK_A _ _ _ _) (by rw [cn_30]; show (.inl (env.2.1 0, 150, .inl (fun j => nI (gN (mkK u5 30 0 q_commits).2.2 59 0 j))) : va_E) = _; rw [show (mkK u5 30 0 q_commits).2 = (u.2.1, m01) from h25]; rfl) (cn_mkM2 (by decide) (fun h => by have := hk5 _ _ h; omega) (fun h => by have := hk5 _ _ h; omega) (fun i h => by have := hk5 _ _ h; omega))
  obtain ⟨u6, hu6⟩ : ∃ z, z = mkK u5 30 0 q_commits := ⟨_, rfl⟩
  rw [← hu6] at hB
  have hk6 : ∀ k i, (k, i) ∈ sK u6 → k < 20 ∨ (21 ≤ k ∧ k ≤ 30 ∧ i = 0) := by intro k i h; rw [hu6, mkK_m] at h; rcases h with h | h; (have := hk5 _ _ h; omega); omega
  have h26 : u6.2 = (u.2.1, m01) := by rw [hu6]; exact h25
  have hZ6 : SZ env u6 := by rw [hu6]; exact SZ.k20 hZ5 (by decide)
  have hK6 : Kp u u6 := by rw [hu6]; exact Kp.tr hK5 (Kp.k (fun h => by have := hk5 _ _ h; omega))
  refine w_putX (fk := 9) (v := .ref (q_commits)) (ty := (.array .int)) [.int (nI (3)), .int (nI (1)), .int 0, .ref (q_homes), .ref (q_sets), .int 0, .ref (q_sites), .ref (q_states), .ref (q_starts), .ref (q_commits), .null, .null, .null, .null, .null, .null, .null, .null, .null, .null, .null, .null, .int 0, .null, .null, .null, .null] hF hB rfl in_X5 tyX5 tyX5_ok nmX5 (by decide) tw_3_104 (fun _ h => h) rfl hin rfl (by decide +kernel) rfl rfl (Nat.le_of_ble_eq_true rfl) rfl dX5_init_63 (fun H locs hB => ?_)
  refine lv_aload_n hx hb dX5_init_66 rfl (lv_at hl 0 rfl) ?_
  refine lv_sipush (v := nI 150) hx hb dX5_init_67 (by decide) ?_
  refine w_newI hF hB tw_1_80 (by decide) (Nat.le_of_ble_eq_true rfl) (Nat.le_of_ble_eq_true rfl) dX5_init_70 (fun q_acks H hB => ?_)
  replace hB := Bd.absorb (u' := mkK u6 31 0 q_acks) (k := 31) (i := 0) hB rfl (mkK_A _ _ _ _) (by rw [cn_31]; show (.inl (env.2.1 0, 150, .inl (fun j => nI (gN (mkK u6 31 0 q_acks).2.2 60 0 j))) : va_E) = _; rw [show (mkK u6 31 0 q_acks).2 = (u.2.1, m01) from h26]; rfl) (cn_mkM2 (by decide) (fun h => by have := hk6 _ _ h; omega) (fun h => by have := hk6 _ _ h; omega) (fun i h => by have := hk6 _ _ h; omega))
  obtain ⟨u7, hu7⟩ : ∃ z, z = mkK u6 31 0 q_acks := ⟨_, rfl⟩
  rw [← hu7] at hB
  have hk7 : ∀ k i, (k, i) ∈ sK u7 → k < 20 ∨ (21 ≤ k ∧ k ≤ 31 ∧ i = 0) := by intro k i h; rw [hu7, mkK_m] at h; rcases h with h | h; (have := hk6 _ _ h; omega); omega
  have h27 : u7.2 = (u.2.1, m01) := by rw [hu7]; exact h26
  have hZ7 : SZ env u7 := by rw [hu7]; exact SZ.k20 hZ6 (by decide)
  have hK7 : Kp u u7 := by rw [hu7]; exact Kp.tr hK6 (Kp.k (fun h => by have := hk6 _ _ h; omega))
  refine w_putX (fk := 10) (v := .ref (q_acks)) (ty := (.array .int)) [.int (nI (3)), .int (nI (1)), .int 0, .ref (q_homes), .ref (q_sets), .int 0, .ref (q_sites), .ref (q_states), .ref (q_starts), .ref (q_commits), .ref (q_acks), .null, .null, .null, .null, .null, .null, .null, .null, .null, .null, .null, .int 0, .null, .null, .null, .null] hF hB rfl in_X5 tyX5 tyX5_ok nmX5 (by decide) tw_3_105 (fun _ h => h) rfl hin rfl (by decide +kernel) rfl rfl (Nat.le_of_ble_eq_true rfl) rfl dX5_init_72 (fun H locs hB => ?_)
  refine lv_aload_n hx hb dX5_init_75 rfl (lv_at hl 0 rfl) ?_
  refine lv_sipush (v := nI 150) hx hb dX5_init_76 (by decide) ?_
  refine w_newI hF hB tw_1_80 (by decide) (Nat.le_of_ble_eq_true rfl) (Nat.le_of_ble_eq_true rfl) dX5_init_79 (fun q_yes H hB => ?_)
  replace hB := Bd.absorb (u' := mkK u7 32 0 q_yes) (k := 32) (i := 0) hB rfl (mkK_A _ _ _ _) (by rw [cn_32]; show (.inl (env.2.1 0, 150, .inl (fun j => nI (gN (mkK u7 32 0 q_yes).2.2 61 0 j))) : va_E) = _; rw [show (mkK u7 32 0 q_yes).2 = (u.2.1, m01) from h27]; rfl) (cn_mkM2 (by decide) (fun h => by have := hk7 _ _ h; omega) (fun h => by have := hk7 _ _ h; omega) (fun i h => by have := hk7 _ _ h; omega))
  obtain ⟨u8, hu8⟩ : ∃ z, z = mkK u7 32 0 q_yes := ⟨_, rfl⟩
  rw [← hu8] at hB
  have hk8 : ∀ k i, (k, i) ∈ sK u8 → k < 20 ∨ (21 ≤ k ∧ k ≤ 32 ∧ i = 0) := by intro k i h; rw [hu8, mkK_m] at h; rcases h with h | h; (have := hk7 _ _ h; omega); omega
  have h28 : u8.2 = (u.2.1, m01) := by rw [hu8]; exact h27
  have hZ8 : SZ env u8 := by rw [hu8]; exact SZ.k20 hZ7 (by decide)
  have hK8 : Kp u u8 := by rw [hu8]; exact Kp.tr hK7 (Kp.k (fun h => by have := hk7 _ _ h; omega))
  refine w_putX (fk := 11) (v := .ref (q_yes)) (ty := (.array .int)) [.int (nI (3)), .int (nI (1)), .int 0, .ref (q_homes), .ref (q_sets), .int 0, .ref (q_sites), .ref (q_states), .ref (q_starts), .ref (q_commits), .ref (q_acks), .ref (q_yes), .null, .null, .null, .null, .null, .null, .null, .null, .null, .null, .int 0, .null, .null, .null, .null] hF hB rfl in_X5 tyX5 tyX5_ok nmX5 (by decide) tw_3_106 (fun _ h => h) rfl hin rfl (by decide +kernel) rfl rfl (Nat.le_of_ble_eq_true rfl) rfl dX5_init_81 (fun H locs hB => ?_)
  refine lv_aload_n hx hb dX5_init_84 rfl (lv_at hl 0 rfl) ?_
  refine lv_sipush (v := nI 150) hx hb dX5_init_85 (by decide) ?_
  refine w_newI hF hB tw_1_80 (by decide) (Nat.le_of_ble_eq_true rfl) (Nat.le_of_ble_eq_true rfl) dX5_init_88 (fun q_asks H hB => ?_)
  replace hB := Bd.absorb (u' := mkK u8 33 0 q_asks) (k := 33) (i := 0) hB rfl (mkK_A _ _ _ _) (by rw [cn_33]; show (.inl (env.2.1 0, 150, .inl (fun j => nI (gN (mkK u8 33 0 q_asks).2.2 62 0 j))) : va_E) = _; rw [show (mkK u8 33 0 q_asks).2 = (u.2.1, m01) from h28]; rfl) (cn_mkM2 (by decide) (fun h => by have := hk8 _ _ h; omega) (fun h => by have := hk8 _ _ h; omega) (fun i h => by have := hk8 _ _ h; omega))
  obtain ⟨u9, hu9⟩ : ∃ z, z = mkK u8 33 0 q_asks := ⟨_, rfl⟩
  rw [← hu9] at hB
  have hk9 : ∀ k i, (k, i) ∈ sK u9 → k < 20 ∨ (21 ≤ k ∧ k ≤ 33 ∧ i = 0) := by intro k i h; rw [hu9, mkK_m] at h; rcases h with h | h; (have := hk8 _ _ h; omega); omega
  have h29 : u9.2 = (u.2.1, m01) := by rw [hu9]; exact h28
  have hZ9 : SZ env u9 := by rw [hu9]; exact SZ.k20 hZ8 (by decide)
  have hK9 : Kp u u9 := by rw [hu9]; exact Kp.tr hK8 (Kp.k (fun h => by have := hk8 _ _ h; omega))
  refine w_putX (fk := 12) (v := .ref (q_asks)) (ty := (.array .int)) [.int (nI (3)), .int (nI (1)), .int 0, .ref (q_homes), .ref (q_sets), .int 0, .ref (q_sites), .ref (q_states), .ref (q_starts), .ref (q_commits), .ref (q_acks), .ref (q_yes), .ref (q_asks), .null, .null, .null, .null, .null, .null, .null, .null, .null, .int 0, .null, .null, .null, .null] hF hB rfl in_X5 tyX5 tyX5_ok nmX5 (by decide) tw_3_107 (fun _ h => h) rfl hin rfl (by decide +kernel) rfl rfl (Nat.le_of_ble_eq_true rfl) rfl dX5_init_90 (fun H locs hB => ?_)
  refine lv_aload_n hx hb dX5_init_93 rfl (lv_at hl 0 rfl) ?_
  refine lv_sipush (v := nI 600) hx hb dX5_init_94 (by decide) ?_
  refine w_newZ hF hB tw_2_32 (by decide) (Nat.le_of_ble_eq_true rfl) (Nat.le_of_ble_eq_true rfl) dX5_init_97 (fun q_dropped H hB => ?_)
  replace hB := Bd.absorb (u' := mkK u9 34 0 q_dropped) (k := 34) (i := 0) hB rfl (mkK_A _ _ _ _) (by rw [cn_34]; show (.inl (env.2.1 2, 600, .inl (fun j => b2i (gB (mkK u9 34 0 q_dropped).2.2 63 0 j))) : va_E) = _; rw [show (mkK u9 34 0 q_dropped).2 = (u.2.1, m01) from h29]; rfl) (cn_mkM2 (by decide) (fun h => by have := hk9 _ _ h; omega) (fun h => by have := hk9 _ _ h; omega) (fun i h => by have := hk9 _ _ h; omega))
  obtain ⟨u10, hu10⟩ : ∃ z, z = mkK u9 34 0 q_dropped := ⟨_, rfl⟩
  rw [← hu10] at hB
  have hk10 : ∀ k i, (k, i) ∈ sK u10 → k < 20 ∨ (21 ≤ k ∧ k ≤ 34 ∧ i = 0) := by intro k i h; rw [hu10, mkK_m] at h; rcases h with h | h; (have := hk9 _ _ h; omega); omega
  have h210 : u10.2 = (u.2.1, m01) := by rw [hu10]; exact h29
  have hZ10 : SZ env u10 := by rw [hu10]; exact SZ.k20 hZ9 (by decide)
  have hK10 : Kp u u10 := by rw [hu10]; exact Kp.tr hK9 (Kp.k (fun h => by have := hk9 _ _ h; omega))
  refine w_putX (fk := 13) (v := .ref (q_dropped)) (ty := (.array .boolean)) [.int (nI (3)), .int (nI (1)), .int 0, .ref (q_homes), .ref (q_sets), .int 0, .ref (q_sites), .ref (q_states), .ref (q_starts), .ref (q_commits), .ref (q_acks), .ref (q_yes), .ref (q_asks), .ref (q_dropped), .null, .null, .null, .null, .null, .null, .null, .null, .int 0, .null, .null, .null, .null] hF hB rfl in_X5 tyX5 tyX5_ok nmX5 (by decide) tw_3_108 (fun _ h => h) rfl hin rfl (by decide +kernel) rfl rfl (Nat.le_of_ble_eq_true rfl) rfl dX5_init_99 (fun H locs hB => ?_)
  refine lv_aload_n hx hb dX5_init_102 rfl (lv_at hl 0 rfl) ?_
  refine lv_sipush (v := nI 1800) hx hb dX5_init_103 (by decide) ?_
  refine w_newZ hF hB tw_2_32 (by decide) (Nat.le_of_ble_eq_true rfl) (Nat.le_of_ble_eq_true rfl) dX5_init_106 (fun q_wrote H hB => ?_)
  replace hB := Bd.absorb (u' := mkK u10 35 0 q_wrote) (k := 35) (i := 0) hB rfl (mkK_A _ _ _ _) (by rw [cn_35]; show (.inl (env.2.1 2, 1800, .inl (fun j => b2i (gB (mkK u10 35 0 q_wrote).2.2 64 0 j))) : va_E) = _; rw [show (mkK u10 35 0 q_wrote).2 = (u.2.1, m01) from h210]; rfl) (cn_mkM2 (by decide) (fun h => by have := hk10 _ _ h; omega) (fun h => by have := hk10 _ _ h; omega) (fun i h => by have := hk10 _ _ h; omega))
  obtain ⟨u11, hu11⟩ : ∃ z, z = mkK u10 35 0 q_wrote := ⟨_, rfl⟩
  rw [← hu11] at hB
  have hk11 : ∀ k i, (k, i) ∈ sK u11 → k < 20 ∨ (21 ≤ k ∧ k ≤ 35 ∧ i = 0) := by intro k i h; rw [hu11, mkK_m] at h; rcases h with h | h; (have := hk10 _ _ h; omega); omega
  have h211 : u11.2 = (u.2.1, m01) := by rw [hu11]; exact h210
  have hZ11 : SZ env u11 := by rw [hu11]; exact SZ.k20 hZ10 (by decide)
  have hK11 : Kp u u11 := by rw [hu11]; exact Kp.tr hK10 (Kp.k (fun h => by have := hk10 _ _ h; omega))
  refine w_putX (fk := 14) (v := .ref (q_wrote)) (ty := (.array .boolean)) [.int (nI (3)), .int (nI (1)), .int 0, .ref (q_homes), .ref (q_sets), .int 0, .ref (q_sites), .ref (q_states), .ref (q_starts), .ref (q_commits), .ref (q_acks), .ref (q_yes), .ref (q_asks), .ref (q_dropped), .ref (q_wrote), .null, .null, .null, .null, .null, .null, .null, .int 0, .null, .null, .null, .null] hF hB rfl in_X5 tyX5 tyX5_ok nmX5 (by decide) tw_3_109 (fun _ h => h) rfl hin rfl (by decide +kernel) rfl rfl (Nat.le_of_ble_eq_true rfl) rfl dX5_init_108 (fun H locs hB => ?_)
  refine lv_aload_n hx hb dX5_init_111 rfl (lv_at hl 0 rfl) ?_
  refine lv_sipush (v := nI 1800) hx hb dX5_init_112 (by decide) ?_
  refine w_newJ hF hB tw_2_33 (by decide) (Nat.le_of_ble_eq_true rfl) (Nat.le_of_ble_eq_true rfl) dX5_init_115 (fun q_written H hB => ?_)
  replace hB := Bd.absorb (u' := mkK u11 36 0 q_written) (k := 36) (i := 0) hB rfl (mkK_A _ _ _ _) (by rw [cn_36]; show (.inl (env.2.1 1, 1800, .inr (.inl (fun j => gJ (mkK u11 36 0 q_written).2.2 65 0 j))) : va_E) = _; rw [show (mkK u11 36 0 q_written).2 = (u.2.1, m01) from h211]; rfl) (cn_mkM2 (by decide) (fun h => by have := hk11 _ _ h; omega) (fun h => by have := hk11 _ _ h; omega) (fun i h => by have := hk11 _ _ h; omega))
  obtain ⟨u12, hu12⟩ : ∃ z, z = mkK u11 36 0 q_written := ⟨_, rfl⟩
  rw [← hu12] at hB
  have hk12 : ∀ k i, (k, i) ∈ sK u12 → k < 20 ∨ (21 ≤ k ∧ k ≤ 36 ∧ i = 0) := by intro k i h; rw [hu12, mkK_m] at h; rcases h with h | h; (have := hk11 _ _ h; omega); omega
  have h212 : u12.2 = (u.2.1, m01) := by rw [hu12]; exact h211
  have hZ12 : SZ env u12 := by rw [hu12]; exact SZ.k20 hZ11 (by decide)
  have hK12 : Kp u u12 := by rw [hu12]; exact Kp.tr hK11 (Kp.k (fun h => by have := hk11 _ _ h; omega))
  refine w_putX (fk := 15) (v := .ref (q_written)) (ty := (.array .long)) [.int (nI (3)), .int (nI (1)), .int 0, .ref (q_homes), .ref (q_sets), .int 0, .ref (q_sites), .ref (q_states), .ref (q_starts), .ref (q_commits), .ref (q_acks), .ref (q_yes), .ref (q_asks), .ref (q_dropped), .ref (q_wrote), .ref (q_written), .null, .null, .null, .null, .null, .null, .int 0, .null, .null, .null, .null] hF hB rfl in_X5 tyX5 tyX5_ok nmX5 (by decide) tw_3_110 (fun _ h => h) rfl hin rfl (by decide +kernel) rfl rfl (Nat.le_of_ble_eq_true rfl) rfl dX5_init_117 (fun H locs hB => ?_)
  refine lv_aload_n hx hb dX5_init_120 rfl (lv_at hl 0 rfl) ?_
  refine lv_sipush (v := nI 1800) hx hb dX5_init_121 (by decide) ?_
  refine w_newZ hF hB tw_2_32 (by decide) (Nat.le_of_ble_eq_true rfl) (Nat.le_of_ble_eq_true rfl) dX5_init_124 (fun q_added H hB => ?_)
  replace hB := Bd.absorb (u' := mkK u12 37 0 q_added) (k := 37) (i := 0) hB rfl (mkK_A _ _ _ _) (by rw [cn_37]; show (.inl (env.2.1 2, 1800, .inl (fun j => b2i (gB (mkK u12 37 0 q_added).2.2 66 0 j))) : va_E) = _; rw [show (mkK u12 37 0 q_added).2 = (u.2.1, m01) from h212]; rfl) (cn_mkM2 (by decide) (fun h => by have := hk12 _ _ h; omega) (fun h => by have := hk12 _ _ h; omega) (fun i h => by have := hk12 _ _ h; omega))
  obtain ⟨u13, hu13⟩ : ∃ z, z = mkK u12 37 0 q_added := ⟨_, rfl⟩
  rw [← hu13] at hB
  have hk13 : ∀ k i, (k, i) ∈ sK u13 → k < 20 ∨ (21 ≤ k ∧ k ≤ 37 ∧ i = 0) := by intro k i h; rw [hu13, mkK_m] at h; rcases h with h | h; (have := hk12 _ _ h; omega); omega
  have h213 : u13.2 = (u.2.1, m01) := by rw [hu13]; exact h212
  have hZ13 : SZ env u13 := by rw [hu13]; exact SZ.k20 hZ12 (by decide)
  have hK13 : Kp u u13 := by rw [hu13]; exact Kp.tr hK12 (Kp.k (fun h => by have := hk12 _ _ h; omega))
  refine w_putX (fk := 16) (v := .ref (q_added)) (ty := (.array .boolean)) [.int (nI (3)), .int (nI (1)), .int 0, .ref (q_homes), .ref (q_sets), .int 0, .ref (q_sites), .ref (q_states), .ref (q_starts), .ref (q_commits), .ref (q_acks), .ref (q_yes), .ref (q_asks), .ref (q_dropped), .ref (q_wrote), .ref (q_written), .ref (q_added), .null, .null, .null, .null, .null, .int 0, .null, .null, .null, .null] hF hB rfl in_X5 tyX5 tyX5_ok nmX5 (by decide) tw_3_111 (fun _ h => h) rfl hin rfl (by decide +kernel) rfl rfl (Nat.le_of_ble_eq_true rfl) rfl dX5_init_126 (fun H locs hB => ?_)
  refine lv_aload_n hx hb dX5_init_129 rfl (lv_at hl 0 rfl) ?_
  refine lv_sipush (v := nI 14400) hx hb dX5_init_130 (by decide) ?_
  refine w_newJ hF hB tw_2_33 (by decide) (Nat.le_of_ble_eq_true rfl) (Nat.le_of_ble_eq_true rfl) dX5_init_133 (fun q_more H hB => ?_)
  replace hB := Bd.absorb (u' := mkK u13 38 0 q_more) (k := 38) (i := 0) hB rfl (mkK_A _ _ _ _) (by rw [cn_38]; show (.inl (env.2.1 1, 14400, .inr (.inl (fun j => gJ (mkK u13 38 0 q_more).2.2 67 0 j))) : va_E) = _; rw [show (mkK u13 38 0 q_more).2 = (u.2.1, m01) from h213]; rfl) (cn_mkM2 (by decide) (fun h => by have := hk13 _ _ h; omega) (fun h => by have := hk13 _ _ h; omega) (fun i h => by have := hk13 _ _ h; omega))
  obtain ⟨u14, hu14⟩ : ∃ z, z = mkK u13 38 0 q_more := ⟨_, rfl⟩
  rw [← hu14] at hB
  have hk14 : ∀ k i, (k, i) ∈ sK u14 → k < 20 ∨ (21 ≤ k ∧ k ≤ 38 ∧ i = 0) := by intro k i h; rw [hu14, mkK_m] at h; rcases h with h | h; (have := hk13 _ _ h; omega); omega
  have h214 : u14.2 = (u.2.1, m01) := by rw [hu14]; exact h213
  have hZ14 : SZ env u14 := by rw [hu14]; exact SZ.k20 hZ13 (by decide)
  have hK14 : Kp u u14 := by rw [hu14]; exact Kp.tr hK13 (Kp.k (fun h => by have := hk13 _ _ h; omega))
  refine w_putX (fk := 17) (v := .ref (q_more)) (ty := (.array .long)) [.int (nI (3)), .int (nI (1)), .int 0, .ref (q_homes), .ref (q_sets), .int 0, .ref (q_sites), .ref (q_states), .ref (q_starts), .ref (q_commits), .ref (q_acks), .ref (q_yes), .ref (q_asks), .ref (q_dropped), .ref (q_wrote), .ref (q_written), .ref (q_added), .ref (q_more), .null, .null, .null, .null, .int 0, .null, .null, .null, .null] hF hB rfl in_X5 tyX5 tyX5_ok nmX5 (by decide) tw_3_112 (fun _ h => h) rfl hin rfl (by decide +kernel) rfl rfl (Nat.le_of_ble_eq_true rfl) rfl dX5_init_135 (fun H locs hB => ?_)
  refine lv_aload_n hx hb dX5_init_138 rfl (lv_at hl 0 rfl) ?_
  refine lv_bipush (v := nI 16) hx hb dX5_init_139 (by decide) ?_
  refine w_newI hF hB tw_1_80 (by decide) (Nat.le_of_ble_eq_true rfl) (Nat.le_of_ble_eq_true rfl) dX5_init_141 (fun q_hads H hB => ?_)
  replace hB := Bd.absorb (u' := mkK u14 39 0 q_hads) (k := 39) (i := 0) hB rfl (mkK_A _ _ _ _) (by rw [cn_39]; show (.inl (env.2.1 0, 16, .inl (fun j => nI (gN (mkK u14 39 0 q_hads).2.2 68 0 j))) : va_E) = _; rw [show (mkK u14 39 0 q_hads).2 = (u.2.1, m01) from h214]; rfl) (cn_mkM2 (by decide) (fun h => by have := hk14 _ _ h; omega) (fun h => by have := hk14 _ _ h; omega) (fun i h => by have := hk14 _ _ h; omega))
  obtain ⟨u15, hu15⟩ : ∃ z, z = mkK u14 39 0 q_hads := ⟨_, rfl⟩
  rw [← hu15] at hB
  have hk15 : ∀ k i, (k, i) ∈ sK u15 → k < 20 ∨ (21 ≤ k ∧ k ≤ 39 ∧ i = 0) := by intro k i h; rw [hu15, mkK_m] at h; rcases h with h | h; (have := hk14 _ _ h; omega); omega
  have h215 : u15.2 = (u.2.1, m01) := by rw [hu15]; exact h214
  have hZ15 : SZ env u15 := by rw [hu15]; exact SZ.k20 hZ14 (by decide)
  have hK15 : Kp u u15 := by rw [hu15]; exact Kp.tr hK14 (Kp.k (fun h => by have := hk14 _ _ h; omega))
  refine w_putX (fk := 18) (v := .ref (q_hads)) (ty := (.array .int)) [.int (nI (3)), .int (nI (1)), .int 0, .ref (q_homes), .ref (q_sets), .int 0, .ref (q_sites), .ref (q_states), .ref (q_starts), .ref (q_commits), .ref (q_acks), .ref (q_yes), .ref (q_asks), .ref (q_dropped), .ref (q_wrote), .ref (q_written), .ref (q_added), .ref (q_more), .ref (q_hads), .null, .null, .null, .int 0, .null, .null, .null, .null] hF hB rfl in_X5 tyX5 tyX5_ok nmX5 (by decide) tw_3_113 (fun _ h => h) rfl hin rfl (by decide +kernel) rfl rfl (Nat.le_of_ble_eq_true rfl) rfl dX5_init_143 (fun H locs hB => ?_)
  refine lv_aload_n hx hb dX5_init_146 rfl (lv_at hl 0 rfl) ?_
  refine lv_sipush (v := nI 600) hx hb dX5_init_147 (by decide) ?_
  refine w_newI hF hB tw_1_80 (by decide) (Nat.le_of_ble_eq_true rfl) (Nat.le_of_ble_eq_true rfl) dX5_init_150 (fun q_came H hB => ?_)
  replace hB := Bd.absorb (u' := mkK u15 40 0 q_came) (k := 40) (i := 0) hB rfl (mkK_A _ _ _ _) (by rw [cn_40]; show (.inl (env.2.1 0, 600, .inl (fun j => nI (gN (mkK u15 40 0 q_came).2.2 69 0 j))) : va_E) = _; rw [show (mkK u15 40 0 q_came).2 = (u.2.1, m01) from h215]; rfl) (cn_mkM2 (by decide) (fun h => by have := hk15 _ _ h; omega) (fun h => by have := hk15 _ _ h; omega) (fun i h => by have := hk15 _ _ h; omega))
  obtain ⟨u16, hu16⟩ : ∃ z, z = mkK u15 40 0 q_came := ⟨_, rfl⟩
  rw [← hu16] at hB
  have hk16 : ∀ k i, (k, i) ∈ sK u16 → k < 20 ∨ (21 ≤ k ∧ k ≤ 40 ∧ i = 0) := by intro k i h; rw [hu16, mkK_m] at h; rcases h with h | h; (have := hk15 _ _ h; omega); omega
  have h216 : u16.2 = (u.2.1, m01) := by rw [hu16]; exact h215
  have hZ16 : SZ env u16 := by rw [hu16]; exact SZ.k20 hZ15 (by decide)
  have hK16 : Kp u u16 := by rw [hu16]; exact Kp.tr hK15 (Kp.k (fun h => by have := hk15 _ _ h; omega))
  refine w_putX (fk := 19) (v := .ref (q_came)) (ty := (.array .int)) [.int (nI (3)), .int (nI (1)), .int 0, .ref (q_homes), .ref (q_sets), .int 0, .ref (q_sites), .ref (q_states), .ref (q_starts), .ref (q_commits), .ref (q_acks), .ref (q_yes), .ref (q_asks), .ref (q_dropped), .ref (q_wrote), .ref (q_written), .ref (q_added), .ref (q_more), .ref (q_hads), .ref (q_came), .null, .null, .int 0, .null, .null, .null, .null] hF hB rfl in_X5 tyX5 tyX5_ok nmX5 (by decide) tw_3_114 (fun _ h => h) rfl hin rfl (by decide +kernel) rfl rfl (Nat.le_of_ble_eq_true rfl) rfl dX5_init_152 (fun H locs hB => ?_)
  refine lv_aload_n hx hb dX5_init_155 rfl (lv_at hl 0 rfl) ?_
  refine lv_iconst (v := nI 4) hx hb dX5_init_156 (by decide) ?_
  refine w_newI hF hB tw_1_80 (by decide) (Nat.le_of_ble_eq_true rfl) (Nat.le_of_ble_eq_true rfl) dX5_init_157 (fun q_cameMany H hB => ?_)
  replace hB := Bd.absorb (u' := mkK u16 41 0 q_cameMany) (k := 41) (i := 0) hB rfl (mkK_A _ _ _ _) (by rw [cn_41]; show (.inl (env.2.1 0, 4, .inl (fun j => nI (gN (mkK u16 41 0 q_cameMany).2.2 70 0 j))) : va_E) = _; rw [show (mkK u16 41 0 q_cameMany).2 = (u.2.1, m01) from h216]; rfl) (cn_mkM2 (by decide) (fun h => by have := hk16 _ _ h; omega) (fun h => by have := hk16 _ _ h; omega) (fun i h => by have := hk16 _ _ h; omega))
  obtain ⟨u17, hu17⟩ : ∃ z, z = mkK u16 41 0 q_cameMany := ⟨_, rfl⟩
  rw [← hu17] at hB
  have hk17 : ∀ k i, (k, i) ∈ sK u17 → k < 20 ∨ (21 ≤ k ∧ k ≤ 41 ∧ i = 0) := by intro k i h; rw [hu17, mkK_m] at h; rcases h with h | h; (have := hk16 _ _ h; omega); omega
  have h217 : u17.2 = (u.2.1, m01) := by rw [hu17]; exact h216
  have hZ17 : SZ env u17 := by rw [hu17]; exact SZ.k20 hZ16 (by decide)
  have hK17 : Kp u u17 := by rw [hu17]; exact Kp.tr hK16 (Kp.k (fun h => by have := hk16 _ _ h; omega))
  refine w_putX (fk := 20) (v := .ref (q_cameMany)) (ty := (.array .int)) [.int (nI (3)), .int (nI (1)), .int 0, .ref (q_homes), .ref (q_sets), .int 0, .ref (q_sites), .ref (q_states), .ref (q_starts), .ref (q_commits), .ref (q_acks), .ref (q_yes), .ref (q_asks), .ref (q_dropped), .ref (q_wrote), .ref (q_written), .ref (q_added), .ref (q_more), .ref (q_hads), .ref (q_came), .ref (q_cameMany), .null, .int 0, .null, .null, .null, .null] hF hB rfl in_X5 tyX5 tyX5_ok nmX5 (by decide) tw_3_115 (fun _ h => h) rfl hin rfl (by decide +kernel) rfl rfl (Nat.le_of_ble_eq_true rfl) rfl dX5_init_159 (fun H locs hB => ?_)
  refine lv_aload_n hx hb dX5_init_162 rfl (lv_at hl 0 rfl) ?_
  refine lv_bipush (v := nI 48) hx hb dX5_init_163 (by decide) ?_
  refine w_newI hF hB tw_1_80 (by decide) (Nat.le_of_ble_eq_true rfl) (Nat.le_of_ble_eq_true rfl) dX5_init_165 (fun q_locks H hB => ?_)
  replace hB := Bd.absorb (u' := mkK u17 42 0 q_locks) (k := 42) (i := 0) hB rfl (mkK_A _ _ _ _) (by rw [cn_42]; show (.inl (env.2.1 0, 48, .inl (fun j => gI (mkK u17 42 0 q_locks).2.2 71 0 j)) : va_E) = _; rw [show (mkK u17 42 0 q_locks).2 = (u.2.1, m01) from h217]; rfl) (cn_mkM2 (by decide) (fun h => by have := hk17 _ _ h; omega) (fun h => by have := hk17 _ _ h; omega) (fun i h => by have := hk17 _ _ h; omega))
  obtain ⟨u18, hu18⟩ : ∃ z, z = mkK u17 42 0 q_locks := ⟨_, rfl⟩
  rw [← hu18] at hB
  have hk18 : ∀ k i, (k, i) ∈ sK u18 → k < 20 ∨ (21 ≤ k ∧ k ≤ 42 ∧ i = 0) := by intro k i h; rw [hu18, mkK_m] at h; rcases h with h | h; (have := hk17 _ _ h; omega); omega
  have h218 : u18.2 = (u.2.1, m01) := by rw [hu18]; exact h217
  have hZ18 : SZ env u18 := by rw [hu18]; exact SZ.k20 hZ17 (by decide)
  have hK18 : Kp u u18 := by rw [hu18]; exact Kp.tr hK17 (Kp.k (fun h => by have := hk17 _ _ h; omega))
  refine w_putX (fk := 21) (v := .ref (q_locks)) (ty := (.array .int)) [.int (nI (3)), .int (nI (1)), .int 0, .ref (q_homes), .ref (q_sets), .int 0, .ref (q_sites), .ref (q_states), .ref (q_starts), .ref (q_commits), .ref (q_acks), .ref (q_yes), .ref (q_asks), .ref (q_dropped), .ref (q_wrote), .ref (q_written), .ref (q_added), .ref (q_more), .ref (q_hads), .ref (q_came), .ref (q_cameMany), .ref (q_locks), .int 0, .null, .null, .null, .null] hF hB rfl in_X5 tyX5 tyX5_ok nmX5 (by decide) tw_3_116 (fun _ h => h) rfl hin rfl (by decide +kernel) rfl rfl (Nat.le_of_ble_eq_true rfl) rfl dX5_init_167 (fun H locs hB => ?_)
  refine lv_aload_n hx hb dX5_init_170 rfl (lv_at hl 0 rfl) ?_
  refine lv_sipush (v := nI 2400) hx hb dX5_init_171 (by decide) ?_
  refine w_newI hF hB tw_1_80 (by decide) (Nat.le_of_ble_eq_true rfl) (Nat.le_of_ble_eq_true rfl) dX5_init_174 (fun q_mKind H hB => ?_)
  replace hB := Bd.absorb (u' := mkK u18 44 0 q_mKind) (k := 44) (i := 0) hB rfl (mkK_A _ _ _ _) (by rw [cn_44]; show (.inl (env.2.1 0, 2400, .inl (fun j => nI (gN (mkK u18 44 0 q_mKind).2.2 73 0 j))) : va_E) = _; rw [show (mkK u18 44 0 q_mKind).2 = (u.2.1, m01) from h218]; rfl) (cn_mkM2 (by decide) (fun h => by have := hk18 _ _ h; omega) (fun h => by have := hk18 _ _ h; omega) (fun i h => by have := hk18 _ _ h; omega))
  obtain ⟨u19, hu19⟩ : ∃ z, z = mkK u18 44 0 q_mKind := ⟨_, rfl⟩
  rw [← hu19] at hB
  have hk19 : ∀ k i, (k, i) ∈ sK u19 → k < 20 ∨ (21 ≤ k ∧ k ≤ 44 ∧ i = 0) := by intro k i h; rw [hu19, mkK_m] at h; rcases h with h | h; (have := hk18 _ _ h; omega); omega
  have h219 : u19.2 = (u.2.1, m01) := by rw [hu19]; exact h218
  have hZ19 : SZ env u19 := by rw [hu19]; exact SZ.k20 hZ18 (by decide)
  have hK19 : Kp u u19 := by rw [hu19]; exact Kp.tr hK18 (Kp.k (fun h => by have := hk18 _ _ h; omega))
  refine w_putX (fk := 23) (v := .ref (q_mKind)) (ty := (.array .int)) [.int (nI (3)), .int (nI (1)), .int 0, .ref (q_homes), .ref (q_sets), .int 0, .ref (q_sites), .ref (q_states), .ref (q_starts), .ref (q_commits), .ref (q_acks), .ref (q_yes), .ref (q_asks), .ref (q_dropped), .ref (q_wrote), .ref (q_written), .ref (q_added), .ref (q_more), .ref (q_hads), .ref (q_came), .ref (q_cameMany), .ref (q_locks), .int 0, .ref (q_mKind), .null, .null, .null] hF hB rfl in_X5 tyX5 tyX5_ok nmX5 (by decide) tw_3_118 (fun _ h => h) rfl hin rfl (by decide +kernel) rfl rfl (Nat.le_of_ble_eq_true rfl) rfl dX5_init_176 (fun H locs hB => ?_)
  refine lv_aload_n hx hb dX5_init_179 rfl (lv_at hl 0 rfl) ?_
  refine lv_sipush (v := nI 2400) hx hb dX5_init_180 (by decide) ?_
  refine w_newI hF hB tw_1_80 (by decide) (Nat.le_of_ble_eq_true rfl) (Nat.le_of_ble_eq_true rfl) dX5_init_183 (fun q_mTo H hB => ?_)
  replace hB := Bd.absorb (u' := mkK u19 45 0 q_mTo) (k := 45) (i := 0) hB rfl (mkK_A _ _ _ _) (by rw [cn_45]; show (.inl (env.2.1 0, 2400, .inl (fun j => nI (gN (mkK u19 45 0 q_mTo).2.2 74 0 j))) : va_E) = _; rw [show (mkK u19 45 0 q_mTo).2 = (u.2.1, m01) from h219]; rfl) (cn_mkM2 (by decide) (fun h => by have := hk19 _ _ h; omega) (fun h => by have := hk19 _ _ h; omega) (fun i h => by have := hk19 _ _ h; omega))
  obtain ⟨u20, hu20⟩ : ∃ z, z = mkK u19 45 0 q_mTo := ⟨_, rfl⟩
  rw [← hu20] at hB
  have hk20 : ∀ k i, (k, i) ∈ sK u20 → k < 20 ∨ (21 ≤ k ∧ k ≤ 45 ∧ i = 0) := by intro k i h; rw [hu20, mkK_m] at h; rcases h with h | h; (have := hk19 _ _ h; omega); omega
  have h220 : u20.2 = (u.2.1, m01) := by rw [hu20]; exact h219
  have hZ20 : SZ env u20 := by rw [hu20]; exact SZ.k20 hZ19 (by decide)
  have hK20 : Kp u u20 := by rw [hu20]; exact Kp.tr hK19 (Kp.k (fun h => by have := hk19 _ _ h; omega))
  refine w_putX (fk := 24) (v := .ref (q_mTo)) (ty := (.array .int)) [.int (nI (3)), .int (nI (1)), .int 0, .ref (q_homes), .ref (q_sets), .int 0, .ref (q_sites), .ref (q_states), .ref (q_starts), .ref (q_commits), .ref (q_acks), .ref (q_yes), .ref (q_asks), .ref (q_dropped), .ref (q_wrote), .ref (q_written), .ref (q_added), .ref (q_more), .ref (q_hads), .ref (q_came), .ref (q_cameMany), .ref (q_locks), .int 0, .ref (q_mKind), .ref (q_mTo), .null, .null] hF hB rfl in_X5 tyX5 tyX5_ok nmX5 (by decide) tw_3_119 (fun _ h => h) rfl hin rfl (by decide +kernel) rfl rfl (Nat.le_of_ble_eq_true rfl) rfl dX5_init_185 (fun H locs hB => ?_)
  refine lv_aload_n hx hb dX5_init_188 rfl (lv_at hl 0 rfl) ?_
  refine lv_sipush (v := nI 2400) hx hb dX5_init_189 (by decide) ?_
  refine w_newI hF hB tw_1_80 (by decide) (Nat.le_of_ble_eq_true rfl) (Nat.le_of_ble_eq_true rfl) dX5_init_192 (fun q_mFrom H hB => ?_)
  replace hB := Bd.absorb (u' := mkK u20 46 0 q_mFrom) (k := 46) (i := 0) hB rfl (mkK_A _ _ _ _) (by rw [cn_46]; show (.inl (env.2.1 0, 2400, .inl (fun j => nI (gN (mkK u20 46 0 q_mFrom).2.2 75 0 j))) : va_E) = _; rw [show (mkK u20 46 0 q_mFrom).2 = (u.2.1, m01) from h220]; rfl) (cn_mkM2 (by decide) (fun h => by have := hk20 _ _ h; omega) (fun h => by have := hk20 _ _ h; omega) (fun i h => by have := hk20 _ _ h; omega))
  obtain ⟨u21, hu21⟩ : ∃ z, z = mkK u20 46 0 q_mFrom := ⟨_, rfl⟩
  rw [← hu21] at hB
  have hk21 : ∀ k i, (k, i) ∈ sK u21 → k < 20 ∨ (21 ≤ k ∧ k ≤ 46 ∧ i = 0) := by intro k i h; rw [hu21, mkK_m] at h; rcases h with h | h; (have := hk20 _ _ h; omega); omega
  have h221 : u21.2 = (u.2.1, m01) := by rw [hu21]; exact h220
  have hZ21 : SZ env u21 := by rw [hu21]; exact SZ.k20 hZ20 (by decide)
  have hK21 : Kp u u21 := by rw [hu21]; exact Kp.tr hK20 (Kp.k (fun h => by have := hk20 _ _ h; omega))
  refine w_putX (fk := 25) (v := .ref (q_mFrom)) (ty := (.array .int)) [.int (nI (3)), .int (nI (1)), .int 0, .ref (q_homes), .ref (q_sets), .int 0, .ref (q_sites), .ref (q_states), .ref (q_starts), .ref (q_commits), .ref (q_acks), .ref (q_yes), .ref (q_asks), .ref (q_dropped), .ref (q_wrote), .ref (q_written), .ref (q_added), .ref (q_more), .ref (q_hads), .ref (q_came), .ref (q_cameMany), .ref (q_locks), .int 0, .ref (q_mKind), .ref (q_mTo), .ref (q_mFrom), .null] hF hB rfl in_X5 tyX5 tyX5_ok nmX5 (by decide) tw_3_120 (fun _ h => h) rfl hin rfl (by decide +kernel) rfl rfl (Nat.le_of_ble_eq_true rfl) rfl dX5_init_194 (fun H locs hB => ?_)
  refine lv_aload_n hx hb dX5_init_197 rfl (lv_at hl 0 rfl) ?_
  refine lv_sipush (v := nI 2400) hx hb dX5_init_198 (by decide) ?_
  refine w_newI hF hB tw_1_80 (by decide) (Nat.le_of_ble_eq_true rfl) (Nat.le_of_ble_eq_true rfl) dX5_init_201 (fun q_mOf H hB => ?_)
  replace hB := Bd.absorb (u' := mkK u21 47 0 q_mOf) (k := 47) (i := 0) hB rfl (mkK_A _ _ _ _) (by rw [cn_47]; show (.inl (env.2.1 0, 2400, .inl (fun j => nI (gN (mkK u21 47 0 q_mOf).2.2 76 0 j))) : va_E) = _; rw [show (mkK u21 47 0 q_mOf).2 = (u.2.1, m01) from h221]; rfl) (cn_mkM2 (by decide) (fun h => by have := hk21 _ _ h; omega) (fun h => by have := hk21 _ _ h; omega) (fun i h => by have := hk21 _ _ h; omega))
  obtain ⟨u22, hu22⟩ : ∃ z, z = mkK u21 47 0 q_mOf := ⟨_, rfl⟩
  rw [← hu22] at hB
  have hk22 : ∀ k i, (k, i) ∈ sK u22 → k < 20 ∨ (21 ≤ k ∧ k ≤ 47 ∧ i = 0) := by intro k i h; rw [hu22, mkK_m] at h; rcases h with h | h; (have := hk21 _ _ h; omega); omega
  have h222 : u22.2 = (u.2.1, m01) := by rw [hu22]; exact h221
  have hZ22 : SZ env u22 := by rw [hu22]; exact SZ.k20 hZ21 (by decide)
  have hK22 : Kp u u22 := by rw [hu22]; exact Kp.tr hK21 (Kp.k (fun h => by have := hk21 _ _ h; omega))
  refine w_putX (fk := 26) (v := .ref (q_mOf)) (ty := (.array .int)) [.int (nI (3)), .int (nI (1)), .int 0, .ref (q_homes), .ref (q_sets), .int 0, .ref (q_sites), .ref (q_states), .ref (q_starts), .ref (q_commits), .ref (q_acks), .ref (q_yes), .ref (q_asks), .ref (q_dropped), .ref (q_wrote), .ref (q_written), .ref (q_added), .ref (q_more), .ref (q_hads), .ref (q_came), .ref (q_cameMany), .ref (q_locks), .int 0, .ref (q_mKind), .ref (q_mTo), .ref (q_mFrom), .ref (q_mOf)] hF hB rfl in_X5 tyX5 tyX5_ok nmX5 (by decide) tw_3_121 (fun _ h => h) rfl hin rfl (by decide +kernel) rfl rfl (Nat.le_of_ble_eq_true rfl) rfl dX5_init_203 (fun H locs hB => ?_)
  have hs24 : sA u22 24 0 = q_homes := by rw [hu22, mkK_o (Or.inl (by decide))]; rw [hu21, mkK_o (Or.inl (by decide))]; rw [hu20, mkK_o (Or.inl (by decide))]; rw [hu19, mkK_o (Or.inl (by decide))]; rw [hu18, mkK_o (Or.inl (by decide))]; rw [hu17, mkK_o (Or.inl (by decide))]; rw [hu16, mkK_o (Or.inl (by decide))]; rw [hu15, mkK_o (Or.inl (by decide))]; rw [hu14, mkK_o (Or.inl (by decide))]; rw [hu13, mkK_o (Or.inl (by decide))]; rw [hu12, mkK_o (Or.inl (by decide))]; rw [hu11, mkK_o (Or.inl (by decide))]; rw [hu10, mkK_o (Or.inl (by decide))]; rw [hu9, mkK_o (Or.inl (by decide))]; rw [hu8, mkK_o (Or.inl (by decide))]; rw [hu7, mkK_o (Or.inl (by decide))]; rw [hu6, mkK_o (Or.inl (by decide))]; rw [hu5, mkK_o (Or.inl (by decide))]; rw [hu4, mkK_o (Or.inl (by decide))]; rw [hu3, mkK_o (Or.inl (by decide))]; rw [hu2, mkK_o (Or.inl (by decide))]; rw [hu1]; exact mkK_A _ _ _ _
  have hm24 : (24, 0) ∈ sK u22 := by rw [hu22]; refine mkK_m.mpr (Or.inl ?_); rw [hu21]; refine mkK_m.mpr (Or.inl ?_); rw [hu20]; refine mkK_m.mpr (Or.inl ?_); rw [hu19]; refine mkK_m.mpr (Or.inl ?_); rw [hu18]; refine mkK_m.mpr (Or.inl ?_); rw [hu17]; refine mkK_m.mpr (Or.inl ?_); rw [hu16]; refine mkK_m.mpr (Or.inl ?_); rw [hu15]; refine mkK_m.mpr (Or.inl ?_); rw [hu14]; refine mkK_m.mpr (Or.inl ?_); rw [hu13]; refine mkK_m.mpr (Or.inl ?_); rw [hu12]; refine mkK_m.mpr (Or.inl ?_); rw [hu11]; refine mkK_m.mpr (Or.inl ?_); rw [hu10]; refine mkK_m.mpr (Or.inl ?_); rw [hu9]; refine mkK_m.mpr (Or.inl ?_); rw [hu8]; refine mkK_m.mpr (Or.inl ?_); rw [hu7]; refine mkK_m.mpr (Or.inl ?_); rw [hu6]; refine mkK_m.mpr (Or.inl ?_); rw [hu5]; refine mkK_m.mpr (Or.inl ?_); rw [hu4]; refine mkK_m.mpr (Or.inl ?_); rw [hu3]; refine mkK_m.mpr (Or.inl ?_); rw [hu2]; refine mkK_m.mpr (Or.inl ?_); rw [hu1]; exact mkK_m.mpr (Or.inr ⟨rfl, rfl⟩)
  have hs25 : sA u22 25 0 = q_sets := by rw [hu22, mkK_o (Or.inl (by decide))]; rw [hu21, mkK_o (Or.inl (by decide))]; rw [hu20, mkK_o (Or.inl (by decide))]; rw [hu19, mkK_o (Or.inl (by decide))]; rw [hu18, mkK_o (Or.inl (by decide))]; rw [hu17, mkK_o (Or.inl (by decide))]; rw [hu16, mkK_o (Or.inl (by decide))]; rw [hu15, mkK_o (Or.inl (by decide))]; rw [hu14, mkK_o (Or.inl (by decide))]; rw [hu13, mkK_o (Or.inl (by decide))]; rw [hu12, mkK_o (Or.inl (by decide))]; rw [hu11, mkK_o (Or.inl (by decide))]; rw [hu10, mkK_o (Or.inl (by decide))]; rw [hu9, mkK_o (Or.inl (by decide))]; rw [hu8, mkK_o (Or.inl (by decide))]; rw [hu7, mkK_o (Or.inl (by decide))]; rw [hu6, mkK_o (Or.inl (by decide))]; rw [hu5, mkK_o (Or.inl (by decide))]; rw [hu4, mkK_o (Or.inl (by decide))]; rw [hu3, mkK_o (Or.inl (by decide))]; rw [hu2]; exact mkK_A _ _ _ _
  have hm25 : (25, 0) ∈ sK u22 := by rw [hu22]; refine mkK_m.mpr (Or.inl ?_); rw [hu21]; refine mkK_m.mpr (Or.inl ?_); rw [hu20]; refine mkK_m.mpr (Or.inl ?_); rw [hu19]; refine mkK_m.mpr (Or.inl ?_); rw [hu18]; refine mkK_m.mpr (Or.inl ?_); rw [hu17]; refine mkK_m.mpr (Or.inl ?_); rw [hu16]; refine mkK_m.mpr (Or.inl ?_); rw [hu15]; refine mkK_m.mpr (Or.inl ?_); rw [hu14]; refine mkK_m.mpr (Or.inl ?_); rw [hu13]; refine mkK_m.mpr (Or.inl ?_); rw [hu12]; refine mkK_m.mpr (Or.inl ?_); rw [hu11]; refine mkK_m.mpr (Or.inl ?_); rw [hu10]; refine mkK_m.mpr (Or.inl ?_); rw [hu9]; refine mkK_m.mpr (Or.inl ?_); rw [hu8]; refine mkK_m.mpr (Or.inl ?_); rw [hu7]; refine mkK_m.mpr (Or.inl ?_); rw [hu6]; refine mkK_m.mpr (Or.inl ?_); rw [hu5]; refine mkK_m.mpr (Or.inl ?_); rw [hu4]; refine mkK_m.mpr (Or.inl ?_); rw [hu3]; refine mkK_m.mpr (Or.inl ?_); rw [hu2]; exact mkK_m.mpr (Or.inr ⟨rfl, rfl⟩)
  have hs27 : sA u22 27 0 = q_sites := by rw [hu22, mkK_o (Or.inl (by decide))]; rw [hu21, mkK_o (Or.inl (by decide))]; rw [hu20, mkK_o (Or.inl (by decide))]; rw [hu19, mkK_o (Or.inl (by decide))]; rw [hu18, mkK_o (Or.inl (by decide))]; rw [hu17, mkK_o (Or.inl (by decide))]; rw [hu16, mkK_o (Or.inl (by decide))]; rw [hu15, mkK_o (Or.inl (by decide))]; rw [hu14, mkK_o (Or.inl (by decide))]; rw [hu13, mkK_o (Or.inl (by decide))]; rw [hu12, mkK_o (Or.inl (by decide))]; rw [hu11, mkK_o (Or.inl (by decide))]; rw [hu10, mkK_o (Or.inl (by decide))]; rw [hu9, mkK_o (Or.inl (by decide))]; rw [hu8, mkK_o (Or.inl (by decide))]; rw [hu7, mkK_o (Or.inl (by decide))]; rw [hu6, mkK_o (Or.inl (by decide))]; rw [hu5, mkK_o (Or.inl (by decide))]; rw [hu4, mkK_o (Or.inl (by decide))]; rw [hu3]; exact mkK_A _ _ _ _
  have hm27 : (27, 0) ∈ sK u22 := by rw [hu22]; refine mkK_m.mpr (Or.inl ?_); rw [hu21]; refine mkK_m.mpr (Or.inl ?_); rw [hu20]; refine mkK_m.mpr (Or.inl ?_); rw [hu19]; refine mkK_m.mpr (Or.inl ?_); rw [hu18]; refine mkK_m.mpr (Or.inl ?_); rw [hu17]; refine mkK_m.mpr (Or.inl ?_); rw [hu16]; refine mkK_m.mpr (Or.inl ?_); rw [hu15]; refine mkK_m.mpr (Or.inl ?_); rw [hu14]; refine mkK_m.mpr (Or.inl ?_); rw [hu13]; refine mkK_m.mpr (Or.inl ?_); rw [hu12]; refine mkK_m.mpr (Or.inl ?_); rw [hu11]; refine mkK_m.mpr (Or.inl ?_); rw [hu10]; refine mkK_m.mpr (Or.inl ?_); rw [hu9]; refine mkK_m.mpr (Or.inl ?_); rw [hu8]; refine mkK_m.mpr (Or.inl ?_); rw [hu7]; refine mkK_m.mpr (Or.inl ?_); rw [hu6]; refine mkK_m.mpr (Or.inl ?_); rw [hu5]; refine mkK_m.mpr (Or.inl ?_); rw [hu4]; refine mkK_m.mpr (Or.inl ?_); rw [hu3]; exact mkK_m.mpr (Or.inr ⟨rfl, rfl⟩)
  have hs28 : sA u22 28 0 = q_states := by rw [hu22, mkK_o (Or.inl (by decide))]; rw [hu21, mkK_o (Or.inl (by decide))]; rw [hu20, mkK_o (Or.inl (by decide))]; rw [hu19, mkK_o (Or.inl (by decide))]; rw [hu18, mkK_o (Or.inl (by decide))]; rw [hu17, mkK_o (Or.inl (by decide))]; rw [hu16, mkK_o (Or.inl (by decide))]; rw [hu15, mkK_o (Or.inl (by decide))]; rw [hu14, mkK_o (Or.inl (by decide))]; rw [hu13, mkK_o (Or.inl (by decide))]; rw [hu12, mkK_o (Or.inl (by decide))]; rw [hu11, mkK_o (Or.inl (by decide))]; rw [hu10, mkK_o (Or.inl (by decide))]; rw [hu9, mkK_o (Or.inl (by decide))]; rw [hu8, mkK_o (Or.inl (by decide))]; rw [hu7, mkK_o (Or.inl (by decide))]; rw [hu6, mkK_o (Or.inl (by decide))]; rw [hu5, mkK_o (Or.inl (by decide))]; rw [hu4]; exact mkK_A _ _ _ _
  have hm28 : (28, 0) ∈ sK u22 := by rw [hu22]; refine mkK_m.mpr (Or.inl ?_); rw [hu21]; refine mkK_m.mpr (Or.inl ?_); rw [hu20]; refine mkK_m.mpr (Or.inl ?_); rw [hu19]; refine mkK_m.mpr (Or.inl ?_); rw [hu18]; refine mkK_m.mpr (Or.inl ?_); rw [hu17]; refine mkK_m.mpr (Or.inl ?_); rw [hu16]; refine mkK_m.mpr (Or.inl ?_); rw [hu15]; refine mkK_m.mpr (Or.inl ?_); rw [hu14]; refine mkK_m.mpr (Or.inl ?_); rw [hu13]; refine mkK_m.mpr (Or.inl ?_); rw [hu12]; refine mkK_m.mpr (Or.inl ?_); rw [hu11]; refine mkK_m.mpr (Or.inl ?_); rw [hu10]; refine mkK_m.mpr (Or.inl ?_); rw [hu9]; refine mkK_m.mpr (Or.inl ?_); rw [hu8]; refine mkK_m.mpr (Or.inl ?_); rw [hu7]; refine mkK_m.mpr (Or.inl ?_); rw [hu6]; refine mkK_m.mpr (Or.inl ?_); rw [hu5]; refine mkK_m.mpr (Or.inl ?_); rw [hu4]; exact mkK_m.mpr (Or.inr ⟨rfl, rfl⟩)
  have hs29 : sA u22 29 0 = q_starts := by rw [hu22, mkK_o (Or.inl (by decide))]; rw [hu21, mkK_o (Or.inl (by decide))]; rw [hu20, mkK_o (Or.inl (by decide))]; rw [hu19, mkK_o (Or.inl (by decide))]; rw [hu18, mkK_o (Or.inl (by decide))]; rw [hu17, mkK_o (Or.inl (by decide))]; rw [hu16, mkK_o (Or.inl (by decide))]; rw [hu15, mkK_o (Or.inl (by decide))]; rw [hu14, mkK_o (Or.inl (by decide))]; rw [hu13, mkK_o (Or.inl (by decide))]; rw [hu12, mkK_o (Or.inl (by decide))]; rw [hu11, mkK_o (Or.inl (by decide))]; rw [hu10, mkK_o (Or.inl (by decide))]; rw [hu9, mkK_o (Or.inl (by decide))]; rw [hu8, mkK_o (Or.inl (by decide))]; rw [hu7, mkK_o (Or.inl (by decide))]; rw [hu6, mkK_o (Or.inl (by decide))]; rw [hu5]; exact mkK_A _ _ _ _
  have hm29 : (29, 0) ∈ sK u22 := by rw [hu22]; refine mkK_m.mpr (Or.inl ?_); rw [hu21]; refine mkK_m.mpr (Or.inl ?_); rw [hu20]; refine mkK_m.mpr (Or.inl ?_); rw [hu19]; refine mkK_m.mpr (Or.inl ?_); rw [hu18]; refine mkK_m.mpr (Or.inl ?_); rw [hu17]; refine mkK_m.mpr (Or.inl ?_); rw [hu16]; refine mkK_m.mpr (Or.inl ?_); rw [hu15]; refine mkK_m.mpr (Or.inl ?_); rw [hu14]; refine mkK_m.mpr (Or.inl ?_); rw [hu13]; refine mkK_m.mpr (Or.inl ?_); rw [hu12]; refine mkK_m.mpr (Or.inl ?_); rw [hu11]; refine mkK_m.mpr (Or.inl ?_); rw [hu10]; refine mkK_m.mpr (Or.inl ?_); rw [hu9]; refine mkK_m.mpr (Or.inl ?_); rw [hu8]; refine mkK_m.mpr (Or.inl ?_); rw [hu7]; refine mkK_m.mpr (Or.inl ?_); rw [hu6]; refine mkK_m.mpr (Or.inl ?_); rw [hu5]; exact mkK_m.mpr (Or.inr ⟨rfl, rfl⟩)
  have hs30 : sA u22 30 0 = q_commits := by rw [hu22, mkK_o (Or.inl (by decide))]; rw [hu21, mkK_o (Or.inl (by decide))]; rw [hu20, mkK_o (Or.inl (by decide))]; rw [hu19, mkK_o (Or.inl (by decide))]; rw [hu18, mkK_o (Or.inl (by decide))]; rw [hu17, mkK_o (Or.inl (by decide))]; rw [hu16, mkK_o (Or.inl (by decide))]; rw [hu15, mkK_o (Or.inl (by decide))]; rw [hu14, mkK_o (Or.inl (by decide))]; rw [hu13, mkK_o (Or.inl (by decide))]; rw [hu12, mkK_o (Or.inl (by decide))]; rw [hu11, mkK_o (Or.inl (by decide))]; rw [hu10, mkK_o (Or.inl (by decide))]; rw [hu9, mkK_o (Or.inl (by decide))]; rw [hu8, mkK_o (Or.inl (by decide))]; rw [hu7, mkK_o (Or.inl (by decide))]; rw [hu6]; exact mkK_A _ _ _ _
  have hm30 : (30, 0) ∈ sK u22 := by rw [hu22]; refine mkK_m.mpr (Or.inl ?_); rw [hu21]; refine mkK_m.mpr (Or.inl ?_); rw [hu20]; refine mkK_m.mpr (Or.inl ?_); rw [hu19]; refine mkK_m.mpr (Or.inl ?_); rw [hu18]; refine mkK_m.mpr (Or.inl ?_); rw [hu17]; refine mkK_m.mpr (Or.inl ?_); rw [hu16]; refine mkK_m.mpr (Or.inl ?_); rw [hu15]; refine mkK_m.mpr (Or.inl ?_); rw [hu14]; refine mkK_m.mpr (Or.inl ?_); rw [hu13]; refine mkK_m.mpr (Or.inl ?_); rw [hu12]; refine mkK_m.mpr (Or.inl ?_); rw [hu11]; refine mkK_m.mpr (Or.inl ?_); rw [hu10]; refine mkK_m.mpr (Or.inl ?_); rw [hu9]; refine mkK_m.mpr (Or.inl ?_); rw [hu8]; refine mkK_m.mpr (Or.inl ?_); rw [hu7]; refine mkK_m.mpr (Or.inl ?_); rw [hu6]; exact mkK_m.mpr (Or.inr ⟨rfl, rfl⟩)
  have hs31 : sA u22 31 0 = q_acks := by rw [hu22, mkK_o (Or.inl (by decide))]; rw [hu21, mkK_o (Or.inl (by decide))]; rw [hu20, mkK_o (Or.inl (by decide))]; rw [hu19, mkK_o (Or.inl (by decide))]; rw [hu18, mkK_o (Or.inl (by decide))]; rw [hu17, mkK_o (Or.inl (by decide))]; rw [hu16, mkK_o (Or.inl (by decide))]; rw [hu15, mkK_o (Or.inl (by decide))]; rw [hu14, mkK_o (Or.inl (by decide))]; rw [hu13, mkK_o (Or.inl (by decide))]; rw [hu12, mkK_o (Or.inl (by decide))]; rw [hu11, mkK_o (Or.inl (by decide))]; rw [hu10, mkK_o (Or.inl (by decide))]; rw [hu9, mkK_o (Or.inl (by decide))]; rw [hu8, mkK_o (Or.inl (by decide))]; rw [hu7]; exact mkK_A _ _ _ _
  have hm31 : (31, 0) ∈ sK u22 := by rw [hu22]; refine mkK_m.mpr (Or.inl ?_); rw [hu21]; refine mkK_m.mpr (Or.inl ?_); rw [hu20]; refine mkK_m.mpr (Or.inl ?_); rw [hu19]; refine mkK_m.mpr (Or.inl ?_); rw [hu18]; refine mkK_m.mpr (Or.inl ?_); rw [hu17]; refine mkK_m.mpr (Or.inl ?_); rw [hu16]; refine mkK_m.mpr (Or.inl ?_); rw [hu15]; refine mkK_m.mpr (Or.inl ?_); rw [hu14]; refine mkK_m.mpr (Or.inl ?_); rw [hu13]; refine mkK_m.mpr (Or.inl ?_); rw [hu12]; refine mkK_m.mpr (Or.inl ?_); rw [hu11]; refine mkK_m.mpr (Or.inl ?_); rw [hu10]; refine mkK_m.mpr (Or.inl ?_); rw [hu9]; refine mkK_m.mpr (Or.inl ?_); rw [hu8]; refine mkK_m.mpr (Or.inl ?_); rw [hu7]; exact mkK_m.mpr (Or.inr ⟨rfl, rfl⟩)
  have hs32 : sA u22 32 0 = q_yes := by rw [hu22, mkK_o (Or.inl (by decide))]; rw [hu21, mkK_o (Or.inl (by decide))]; rw [hu20, mkK_o (Or.inl (by decide))]; rw [hu19, mkK_o (Or.inl (by decide))]; rw [hu18, mkK_o (Or.inl (by decide))]; rw [hu17, mkK_o (Or.inl (by decide))]; rw [hu16, mkK_o (Or.inl (by decide))]; rw [hu15, mkK_o (Or.inl (by decide))]; rw [hu14, mkK_o (Or.inl (by decide))]; rw [hu13, mkK_o (Or.inl (by decide))]; rw [hu12, mkK_o (Or.inl (by decide))]; rw [hu11, mkK_o (Or.inl (by decide))]; rw [hu10, mkK_o (Or.inl (by decide))]; rw [hu9, mkK_o (Or.inl (by decide))]; rw [hu8]; exact mkK_A _ _ _ _
  have hm32 : (32, 0) ∈ sK u22 := by rw [hu22]; refine mkK_m.mpr (Or.inl ?_); rw [hu21]; refine mkK_m.mpr (Or.inl ?_); rw [hu20]; refine mkK_m.mpr (Or.inl ?_); rw [hu19]; refine mkK_m.mpr (Or.inl ?_); rw [hu18]; refine mkK_m.mpr (Or.inl ?_); rw [hu17]; refine mkK_m.mpr (Or.inl ?_); rw [hu16]; refine mkK_m.mpr (Or.inl ?_); rw [hu15]; refine mkK_m.mpr (Or.inl ?_); rw [hu14]; refine mkK_m.mpr (Or.inl ?_); rw [hu13]; refine mkK_m.mpr (Or.inl ?_); rw [hu12]; refine mkK_m.mpr (Or.inl ?_); rw [hu11]; refine mkK_m.mpr (Or.inl ?_); rw [hu10]; refine mkK_m.mpr (Or.inl ?_); rw [hu9]; refine mkK_m.mpr (Or.inl ?_); rw [hu8]; exact mkK_m.mpr (Or.inr ⟨rfl, rfl⟩)
  have hs33 : sA u22 33 0 = q_asks := by rw [hu22, mkK_o (Or.inl (by decide))]; rw [hu21, mkK_o (Or.inl (by decide))]; rw [hu20, mkK_o (Or.inl (by decide))]; rw [hu19, mkK_o (Or.inl (by decide))]; rw [hu18, mkK_o (Or.inl (by decide))]; rw [hu17, mkK_o (Or.inl (by decide))]; rw [hu16, mkK_o (Or.inl (by decide))]; rw [hu15, mkK_o (Or.inl (by decide))]; rw [hu14, mkK_o (Or.inl (by decide))]; rw [hu13, mkK_o (Or.inl (by decide))]; rw [hu12, mkK_o (Or.inl (by decide))]; rw [hu11, mkK_o (Or.inl (by decide))]; rw [hu10, mkK_o (Or.inl (by decide))]; rw [hu9]; exact mkK_A _ _ _ _
  have hm33 : (33, 0) ∈ sK u22 := by rw [hu22]; refine mkK_m.mpr (Or.inl ?_); rw [hu21]; refine mkK_m.mpr (Or.inl ?_); rw [hu20]; refine mkK_m.mpr (Or.inl ?_); rw [hu19]; refine mkK_m.mpr (Or.inl ?_); rw [hu18]; refine mkK_m.mpr (Or.inl ?_); rw [hu17]; refine mkK_m.mpr (Or.inl ?_); rw [hu16]; refine mkK_m.mpr (Or.inl ?_); rw [hu15]; refine mkK_m.mpr (Or.inl ?_); rw [hu14]; refine mkK_m.mpr (Or.inl ?_); rw [hu13]; refine mkK_m.mpr (Or.inl ?_); rw [hu12]; refine mkK_m.mpr (Or.inl ?_); rw [hu11]; refine mkK_m.mpr (Or.inl ?_); rw [hu10]; refine mkK_m.mpr (Or.inl ?_); rw [hu9]; exact mkK_m.mpr (Or.inr ⟨rfl, rfl⟩)
  have hs34 : sA u22 34 0 = q_dropped := by rw [hu22, mkK_o (Or.inl (by decide))]; rw [hu21, mkK_o (Or.inl (by decide))]; rw [hu20, mkK_o (Or.inl (by decide))]; rw [hu19, mkK_o (Or.inl (by decide))]; rw [hu18, mkK_o (Or.inl (by decide))]; rw [hu17, mkK_o (Or.inl (by decide))]; rw [hu16, mkK_o (Or.inl (by decide))]; rw [hu15, mkK_o (Or.inl (by decide))]; rw [hu14, mkK_o (Or.inl (by decide))]; rw [hu13, mkK_o (Or.inl (by decide))]; rw [hu12, mkK_o (Or.inl (by decide))]; rw [hu11, mkK_o (Or.inl (by decide))]; rw [hu10]; exact mkK_A _ _ _ _
  have hm34 : (34, 0) ∈ sK u22 := by rw [hu22]; refine mkK_m.mpr (Or.inl ?_); rw [hu21]; refine mkK_m.mpr (Or.inl ?_); rw [hu20]; refine mkK_m.mpr (Or.inl ?_); rw [hu19]; refine mkK_m.mpr (Or.inl ?_); rw [hu18]; refine mkK_m.mpr (Or.inl ?_); rw [hu17]; refine mkK_m.mpr (Or.inl ?_); rw [hu16]; refine mkK_m.mpr (Or.inl ?_); rw [hu15]; refine mkK_m.mpr (Or.inl ?_); rw [hu14]; refine mkK_m.mpr (Or.inl ?_); rw [hu13]; refine mkK_m.mpr (Or.inl ?_); rw [hu12]; refine mkK_m.mpr (Or.inl ?_); rw [hu11]; refine mkK_m.mpr (Or.inl ?_); rw [hu10]; exact mkK_m.mpr (Or.inr ⟨rfl, rfl⟩)
  have hs35 : sA u22 35 0 = q_wrote := by rw [hu22, mkK_o (Or.inl (by decide))]; rw [hu21, mkK_o (Or.inl (by decide))]; rw [hu20, mkK_o (Or.inl (by decide))]; rw [hu19, mkK_o (Or.inl (by decide))]; rw [hu18, mkK_o (Or.inl (by decide))]; rw [hu17, mkK_o (Or.inl (by decide))]; rw [hu16, mkK_o (Or.inl (by decide))]; rw [hu15, mkK_o (Or.inl (by decide))]; rw [hu14, mkK_o (Or.inl (by decide))]; rw [hu13, mkK_o (Or.inl (by decide))]; rw [hu12, mkK_o (Or.inl (by decide))]; rw [hu11]; exact mkK_A _ _ _ _
  have hm35 : (35, 0) ∈ sK u22 := by rw [hu22]; refine mkK_m.mpr (Or.inl ?_); rw [hu21]; refine mkK_m.mpr (Or.inl ?_); rw [hu20]; refine mkK_m.mpr (Or.inl ?_); rw [hu19]; refine mkK_m.mpr (Or.inl ?_); rw [hu18]; refine mkK_m.mpr (Or.inl ?_); rw [hu17]; refine mkK_m.mpr (Or.inl ?_); rw [hu16]; refine mkK_m.mpr (Or.inl ?_); rw [hu15]; refine mkK_m.mpr (Or.inl ?_); rw [hu14]; refine mkK_m.mpr (Or.inl ?_); rw [hu13]; refine mkK_m.mpr (Or.inl ?_); rw [hu12]; refine mkK_m.mpr (Or.inl ?_); rw [hu11]; exact mkK_m.mpr (Or.inr ⟨rfl, rfl⟩)
  have hs36 : sA u22 36 0 = q_written := by rw [hu22, mkK_o (Or.inl (by decide))]; rw [hu21, mkK_o (Or.inl (by decide))]; rw [hu20, mkK_o (Or.inl (by decide))]; rw [hu19, mkK_o (Or.inl (by decide))]; rw [hu18, mkK_o (Or.inl (by decide))]; rw [hu17, mkK_o (Or.inl (by decide))]; rw [hu16, mkK_o (Or.inl (by decide))]; rw [hu15, mkK_o (Or.inl (by decide))]; rw [hu14, mkK_o (Or.inl (by decide))]; rw [hu13, mkK_o (Or.inl (by decide))]; rw [hu12]; exact mkK_A _ _ _ _
  have hm36 : (36, 0) ∈ sK u22 := by rw [hu22]; refine mkK_m.mpr (Or.inl ?_); rw [hu21]; refine mkK_m.mpr (Or.inl ?_); rw [hu20]; refine mkK_m.mpr (Or.inl ?_); rw [hu19]; refine mkK_m.mpr (Or.inl ?_); rw [hu18]; refine mkK_m.mpr (Or.inl ?_); rw [hu17]; refine mkK_m.mpr (Or.inl ?_); rw [hu16]; refine mkK_m.mpr (Or.inl ?_); rw [hu15]; refine mkK_m.mpr (Or.inl ?_); rw [hu14]; refine mkK_m.mpr (Or.inl ?_); rw [hu13]; refine mkK_m.mpr (Or.inl ?_); rw [hu12]; exact mkK_m.mpr (Or.inr ⟨rfl, rfl⟩)
  have hs37 : sA u22 37 0 = q_added := by rw [hu22, mkK_o (Or.inl (by decide))]; rw [hu21, mkK_o (Or.inl (by decide))]; rw [hu20, mkK_o (Or.inl (by decide))]; rw [hu19, mkK_o (Or.inl (by decide))]; rw [hu18, mkK_o (Or.inl (by decide))]; rw [hu17, mkK_o (Or.inl (by decide))]; rw [hu16, mkK_o (Or.inl (by decide))]; rw [hu15, mkK_o (Or.inl (by decide))]; rw [hu14, mkK_o (Or.inl (by decide))]; rw [hu13]; exact mkK_A _ _ _ _
  have hm37 : (37, 0) ∈ sK u22 := by rw [hu22]; refine mkK_m.mpr (Or.inl ?_); rw [hu21]; refine mkK_m.mpr (Or.inl ?_); rw [hu20]; refine mkK_m.mpr (Or.inl ?_); rw [hu19]; refine mkK_m.mpr (Or.inl ?_); rw [hu18]; refine mkK_m.mpr (Or.inl ?_); rw [hu17]; refine mkK_m.mpr (Or.inl ?_); rw [hu16]; refine mkK_m.mpr (Or.inl ?_); rw [hu15]; refine mkK_m.mpr (Or.inl ?_); rw [hu14]; refine mkK_m.mpr (Or.inl ?_); rw [hu13]; exact mkK_m.mpr (Or.inr ⟨rfl, rfl⟩)
  have hs38 : sA u22 38 0 = q_more := by rw [hu22, mkK_o (Or.inl (by decide))]; rw [hu21, mkK_o (Or.inl (by decide))]; rw [hu20, mkK_o (Or.inl (by decide))]; rw [hu19, mkK_o (Or.inl (by decide))]; rw [hu18, mkK_o (Or.inl (by decide))]; rw [hu17, mkK_o (Or.inl (by decide))]; rw [hu16, mkK_o (Or.inl (by decide))]; rw [hu15, mkK_o (Or.inl (by decide))]; rw [hu14]; exact mkK_A _ _ _ _
  have hm38 : (38, 0) ∈ sK u22 := by rw [hu22]; refine mkK_m.mpr (Or.inl ?_); rw [hu21]; refine mkK_m.mpr (Or.inl ?_); rw [hu20]; refine mkK_m.mpr (Or.inl ?_); rw [hu19]; refine mkK_m.mpr (Or.inl ?_); rw [hu18]; refine mkK_m.mpr (Or.inl ?_); rw [hu17]; refine mkK_m.mpr (Or.inl ?_); rw [hu16]; refine mkK_m.mpr (Or.inl ?_); rw [hu15]; refine mkK_m.mpr (Or.inl ?_); rw [hu14]; exact mkK_m.mpr (Or.inr ⟨rfl, rfl⟩)
  have hs39 : sA u22 39 0 = q_hads := by rw [hu22, mkK_o (Or.inl (by decide))]; rw [hu21, mkK_o (Or.inl (by decide))]; rw [hu20, mkK_o (Or.inl (by decide))]; rw [hu19, mkK_o (Or.inl (by decide))]; rw [hu18, mkK_o (Or.inl (by decide))]; rw [hu17, mkK_o (Or.inl (by decide))]; rw [hu16, mkK_o (Or.inl (by decide))]; rw [hu15]; exact mkK_A _ _ _ _
  have hm39 : (39, 0) ∈ sK u22 := by rw [hu22]; refine mkK_m.mpr (Or.inl ?_); rw [hu21]; refine mkK_m.mpr (Or.inl ?_); rw [hu20]; refine mkK_m.mpr (Or.inl ?_); rw [hu19]; refine mkK_m.mpr (Or.inl ?_); rw [hu18]; refine mkK_m.mpr (Or.inl ?_); rw [hu17]; refine mkK_m.mpr (Or.inl ?_); rw [hu16]; refine mkK_m.mpr (Or.inl ?_); rw [hu15]; exact mkK_m.mpr (Or.inr ⟨rfl, rfl⟩)
  have hs40 : sA u22 40 0 = q_came := by rw [hu22, mkK_o (Or.inl (by decide))]; rw [hu21, mkK_o (Or.inl (by decide))]; rw [hu20, mkK_o (Or.inl (by decide))]; rw [hu19, mkK_o (Or.inl (by decide))]; rw [hu18, mkK_o (Or.inl (by decide))]; rw [hu17, mkK_o (Or.inl (by decide))]; rw [hu16]; exact mkK_A _ _ _ _
  have hm40 : (40, 0) ∈ sK u22 := by rw [hu22]; refine mkK_m.mpr (Or.inl ?_); rw [hu21]; refine mkK_m.mpr (Or.inl ?_); rw [hu20]; refine mkK_m.mpr (Or.inl ?_); rw [hu19]; refine mkK_m.mpr (Or.inl ?_); rw [hu18]; refine mkK_m.mpr (Or.inl ?_); rw [hu17]; refine mkK_m.mpr (Or.inl ?_); rw [hu16]; exact mkK_m.mpr (Or.inr ⟨rfl, rfl⟩)
  have hs41 : sA u22 41 0 = q_cameMany := by rw [hu22, mkK_o (Or.inl (by decide))]; rw [hu21, mkK_o (Or.inl (by decide))]; rw [hu20, mkK_o (Or.inl (by decide))]; rw [hu19, mkK_o (Or.inl (by decide))]; rw [hu18, mkK_o (Or.inl (by decide))]; rw [hu17]; exact mkK_A _ _ _ _
  have hm41 : (41, 0) ∈ sK u22 := by rw [hu22]; refine mkK_m.mpr (Or.inl ?_); rw [hu21]; refine mkK_m.mpr (Or.inl ?_); rw [hu20]; refine mkK_m.mpr (Or.inl ?_); rw [hu19]; refine mkK_m.mpr (Or.inl ?_); rw [hu18]; refine mkK_m.mpr (Or.inl ?_); rw [hu17]; exact mkK_m.mpr (Or.inr ⟨rfl, rfl⟩)
  have hs42 : sA u22 42 0 = q_locks := by rw [hu22, mkK_o (Or.inl (by decide))]; rw [hu21, mkK_o (Or.inl (by decide))]; rw [hu20, mkK_o (Or.inl (by decide))]; rw [hu19, mkK_o (Or.inl (by decide))]; rw [hu18]; exact mkK_A _ _ _ _
  have hm42 : (42, 0) ∈ sK u22 := by rw [hu22]; refine mkK_m.mpr (Or.inl ?_); rw [hu21]; refine mkK_m.mpr (Or.inl ?_); rw [hu20]; refine mkK_m.mpr (Or.inl ?_); rw [hu19]; refine mkK_m.mpr (Or.inl ?_); rw [hu18]; exact mkK_m.mpr (Or.inr ⟨rfl, rfl⟩)
  have hs44 : sA u22 44 0 = q_mKind := by rw [hu22, mkK_o (Or.inl (by decide))]; rw [hu21, mkK_o (Or.inl (by decide))]; rw [hu20, mkK_o (Or.inl (by decide))]; rw [hu19]; exact mkK_A _ _ _ _
  have hm44 : (44, 0) ∈ sK u22 := by rw [hu22]; refine mkK_m.mpr (Or.inl ?_); rw [hu21]; refine mkK_m.mpr (Or.inl ?_); rw [hu20]; refine mkK_m.mpr (Or.inl ?_); rw [hu19]; exact mkK_m.mpr (Or.inr ⟨rfl, rfl⟩)
  have hs45 : sA u22 45 0 = q_mTo := by rw [hu22, mkK_o (Or.inl (by decide))]; rw [hu21, mkK_o (Or.inl (by decide))]; rw [hu20]; exact mkK_A _ _ _ _
  have hm45 : (45, 0) ∈ sK u22 := by rw [hu22]; refine mkK_m.mpr (Or.inl ?_); rw [hu21]; refine mkK_m.mpr (Or.inl ?_); rw [hu20]; exact mkK_m.mpr (Or.inr ⟨rfl, rfl⟩)
  have hs46 : sA u22 46 0 = q_mFrom := by rw [hu22, mkK_o (Or.inl (by decide))]; rw [hu21]; exact mkK_A _ _ _ _
  have hm46 : (46, 0) ∈ sK u22 := by rw [hu22]; refine mkK_m.mpr (Or.inl ?_); rw [hu21]; exact mkK_m.mpr (Or.inr ⟨rfl, rfl⟩)
  have hs47 : sA u22 47 0 = q_mOf := by rw [hu22]; exact mkK_A _ _ _ _
  have hm47 : (47, 0) ∈ sK u22 := by rw [hu22]; exact mkK_m.mpr (Or.inr ⟨rfl, rfl⟩)
  have hB0 : Bd env s0 ((a0, .inr (6, [.int (nI (3)), .int (nI (1)), .int 0, .ref (q_homes), .ref (q_sets), .int 0, .ref (q_sites), .ref (q_states), .ref (q_starts), .ref (q_commits), .ref (q_acks), .ref (q_yes), .ref (q_asks), .ref (q_dropped), .ref (q_wrote), .ref (q_written), .ref (q_added), .ref (q_more), .ref (q_hads), .ref (q_came), .ref (q_cameMany), .ref (q_locks), .int 0, .ref (q_mKind), .ref (q_mTo), .ref (q_mFrom), .ref (q_mOf)])) :: X) (wM u22 m01) s H locs := by have e : wM u22 m01 = u22 := (by unfold wM; rw [show m01 = u22.2.2 from by rw [h222]]); rw [e]; exact hB
  clear hB
  have hB := hB0
  obtain ⟨X, hX⟩ : ∃ Y, Y = (a0, .inr (6, [.int (nI (3)), .int (nI (1)), .int 0, .ref (q_homes), .ref (q_sets), .int 0, .ref (q_sites), .ref (q_states), .ref (q_starts), .ref (q_commits), .ref (q_acks), .ref (q_yes), .ref (q_asks), .ref (q_dropped), .ref (q_wrote), .ref (q_written), .ref (q_added), .ref (q_more), .ref (q_hads), .ref (q_came), .ref (q_cameMany), .ref (q_locks), .int 0, .ref (q_mKind), .ref (q_mTo), .ref (q_mFrom), .ref (q_mOf)])) :: X := ⟨_, rfl⟩
  rw [← hX] at hB
  clear hB0
  refine lv_iconst (v := nI 0) hx hb dX5_init_206 (by decide) ?_
  refine lv_istore_n (lv' := [(1, .int (nI (0))), (0, .ref (a0))]) hx hb dX5_init_207 rfl hl (by decide) rfl (fun ls hl => ?_)
  refine wloopH (σ := Heap × List Loc × Array Slot) (G := fun x => W p l e _ s m _ below meth c x.1 x.2.1 _ _ _ (F0 m 208 x.2.2 [])) (P := fun i_1 x => (True) ∧ Bd env s0 X (wM u22 (mFill m01 i_1)) s x.1 x.2.1 ∧ lv_has x.2.2 2 [(0, .ref (a0)), (1, .int (nI (i_1)))]) (N := 48) ?_ 0 (_, _, ls) (Nat.zero_le _) ⟨trivial, hB, lv_sub hl [1, 0] rfl⟩
  rintro i_1 ⟨H, locs, ls⟩ hi_2 ⟨hv_3, hB, hl⟩ ih208
  replace hB : Bd env s0 X (wM u22 (mFill m01 i_1)) s H locs := hB
  replace hl : lv_has ls 2 [(0, .ref (a0)), (1, .int (nI (i_1)))] := hl
  show W p l e _ s m _ below meth c H locs _ _ _ (F0 m 208 ls [])
  have hV_4 : MV (mFill m01 i_1) := MV.ofN (mFill_N _ _) m01_V
  have hNm_5 : Nb (mFill m01 i_1) := Nb.ofN (mFill_N _ _) m01_Nb
  refine lv_iload_n hx hb dX5_init_208 rfl (lv_at hl 1 rfl) ?_
  refine lv_bipush (v := nI 48) hx hb dX5_init_209 (by decide) ?_
  refine w_icge_n (tgt := 228) (by omega) (by decide) hx hb dX5_init_211 (by decide) (fun c_6 => ?_) (fun c_6 => ?_)
  · replace hB : Bd env s0 X (wM u22 mInit) s H locs := by rw [show mInit = mFill m01 i_1 from by rw [show i_1 = 48 by omega]; rfl]; exact hB
    rw [hX] at hB
    replace hB := Bd.absorb (u' := (mkK (wM u22 mInit) 20 0 a0)) (k := 20) (i := 0) hB rfl (mkK_A _ _ _ _) (by rw [cn_20]; rw [mkK_o (Or.inl (by decide)), mkK_o (Or.inl (by decide)), mkK_o (Or.inl (by decide)), mkK_o (Or.inl (by decide)), mkK_o (Or.inl (by decide)), mkK_o (Or.inl (by decide)), mkK_o (Or.inl (by decide)), mkK_o (Or.inl (by decide)), mkK_o (Or.inl (by decide)), mkK_o (Or.inl (by decide)), mkK_o (Or.inl (by decide)), mkK_o (Or.inl (by decide)), mkK_o (Or.inl (by decide)), mkK_o (Or.inl (by decide)), mkK_o (Or.inl (by decide)), mkK_o (Or.inl (by decide)), mkK_o (Or.inl (by decide)), mkK_o (Or.inl (by decide)), mkK_o (Or.inl (by decide)), mkK_o (Or.inl (by decide)), mkK_o (Or.inl (by decide)), mkK_o (Or.inl (by decide))]; show (.inr (6, [.int (nI (gN mInit 50 0 0)), .int (nI (gN mInit 51 0 0)), .int (nI (gN mInit 52 0 0)), .ref (sA u22 24 0), .ref (sA u22 25 0), .int (nI (gN mInit 55 0 0)), .ref (sA u22 27 0), .ref (sA u22 28 0), .ref (sA u22 29 0), .ref (sA u22 30 0), .ref (sA u22 31 0), .ref (sA u22 32 0), .ref (sA u22 33 0), .ref (sA u22 34 0), .ref (sA u22 35 0), .ref (sA u22 36 0), .ref (sA u22 37 0), .ref (sA u22 38 0), .ref (sA u22 39 0), .ref (sA u22 40 0), .ref (sA u22 41 0), .ref (sA u22 42 0), .int (nI (gN mInit 72 0 0)), .ref (sA u22 44 0), .ref (sA u22 45 0), .ref (sA u22 46 0), .ref (sA u22 47 0)]) : va_E) = _; rw [hs24, hs25, hs27, hs28, hs29, hs30, hs31, hs32, hs33, hs34, hs35, hs36, hs37, hs38, hs39, hs40, hs41, hs42, hs44, hs45, hs46, hs47]; simp only [show gN mInit = gN m01 from mFill_N _ _]; rfl) (cn_mkM2 (by decide) (fun h => by have := hk22 _ _ h; omega) (fun h => by have := hk22 _ _ h; omega) (fun i h => by have := hk22 _ _ h; omega))
    have e2 : u22.2.1 = u.2.1 := by rw [h222]
    have eF : (mkK (wM u22 mInit) 20 0 a0) = ((mkK (wM u22 mInit) 20 0 a0).1, u.2.1, mInit) := Prod.ext rfl (by show (u22.2.1, mInit) = _; rw [e2])
    have hZF : SZ env (mkK (wM u22 mInit) 20 0 a0) := SZ.k20 (u := (wM u22 mInit)) (SZ.m (ph := u22.1) (c := u22.2.1) (m := u22.2.2) hZ22) (by decide)
    have hKF : Kp u (mkK (wM u22 mInit) 20 0 a0) := Kp.tr (Kp.c (ph := u22.1) (c := u22.2.1) (m := u22.2.2) hK22) (Kp.k (u := (wM u22 mInit)) (fun h => by have := hk22 _ _ h; omega))
    have hMF : MI (mkK (wM u22 mInit) 20 0 a0) := by intro k hk; simp only [List.mem_cons, List.not_mem_nil, or_false] at hk; rcases hk with rfl | rfl | rfl | rfl | rfl | rfl | rfl | rfl | rfl | rfl | rfl | rfl | rfl | rfl | rfl | rfl | rfl | rfl | rfl | rfl | rfl | rfl | rfl; (exact mkK_m.mpr (Or.inr ⟨rfl, rfl⟩)); (exact mkK_m.mpr (Or.inl hm24)); (exact mkK_m.mpr (Or.inl hm25)); (exact mkK_m.mpr (Or.inl hm27)); (exact mkK_m.mpr (Or.inl hm28)); (exact mkK_m.mpr (Or.inl hm29)); (exact mkK_m.mpr (Or.inl hm30)); (exact mkK_m.mpr (Or.inl hm31)); (exact mkK_m.mpr (Or.inl hm32)); (exact mkK_m.mpr (Or.inl hm33)); (exact mkK_m.mpr (Or.inl hm34)); (exact mkK_m.mpr (Or.inl hm35)); (exact mkK_m.mpr (Or.inl hm36)); (exact mkK_m.mpr (Or.inl hm37)); (exact mkK_m.mpr (Or.inl hm38)); (exact mkK_m.mpr (Or.inl hm39)); (exact mkK_m.mpr (Or.inl hm40)); (exact mkK_m.mpr (Or.inl hm41)); (exact mkK_m.mpr (Or.inl hm42)); (exact mkK_m.mpr (Or.inl hm44)); (exact mkK_m.mpr (Or.inl hm45)); (exact mkK_m.mpr (Or.inl hm46)); (exact mkK_m.mpr (Or.inl hm47))
    have hAF : At (mkK (wM u22 mInit) 20 0 a0) 20 0 a0 := ⟨mkK_m.mpr (Or.inr ⟨rfl, rfl⟩), mkK_A _ _ _ _⟩
    generalize (mkK (wM u22 mInit) 20 0 a0) = uF at hB eF hZF hKF hMF hAF
    exact w_vret hF hr hlocks hB (⟨uF.1, eF, hZF, hKF, hMF, hAF⟩) dX5_init_228
  · refine lv_aload_n hx hb dX5_init_214 rfl (lv_at hl 0 rfl) ?_
    refine w_getX (fk := 21) (v := .ref (q_locks)) hF (by rw [hX] at hB; exact hB) rfl in_X5 (by decide) tw_3_116 rfl rfl dX5_init_215 ?_
    refine lv_iload_n hx hb dX5_init_218 rfl (lv_at hl 1 rfl) ?_
    refine lv_bipush (v := -4) hx hb dX5_init_219 (by decide) ?_
    refine w_iast (x := -4) hF hB ⟨hm42, hs42⟩ (wM u22 (uI (mFill m01 i_1) 71 (0) (i_1) (-4))) (cn_42 env (wM u22 (mFill m01 i_1)) (0)) (by omega) (by decide) rfl rfl (cu_I71 env (wM u22 (mFill m01 i_1)) (0) (i_1) (-4)) dX5_init_221 (fun H locs hB => ?_)
    refine lv_iinc (v := nI (i_1 + 1)) (lv' := [(1, .int (nI (i_1 + 1))), (0, .ref (a0))]) hx hb dX5_init_222 hl (k := 1) rfl (nI_add _ _) (by decide) rfl (fun ls hl => ?_)
    refine lv_goto (tgt := 208) hx hb dX5_init_225 (by decide) ?_
    have em_7 : (mFill m01 ((i_1 + 1))) = (uI (mFill m01 i_1) 71 (0) (i_1) (-4)) := by first | rfl | simp [mFill_s, c_6]
    exact ih208 (H, locs, ls) (by omega) ⟨trivial, (by rw [em_7]; exact hB), by exact lv_sub hl [1, 0] rfl⟩

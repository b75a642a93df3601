set_option maxHeartbeats 4000000 in
set_option maxRecDepth 100000 in
theorem c_X4_init (l : Launch) (env : Ev) (s0 : Nat) (X : va_W) (u : St) (a0 : Nat) (mm : Lg) (hu : u = u00 env mm) : Met l yX4_init [Cond.code yX4_init cX4_init 2 none] { frames := 5, cells := 25, slots := 160, locals := 93 } (va_Pc [.ref (a0)] (Pr env s0 ((a0, .inr (5, [.null, .int 0, .int 0, .null, .null, .null])) :: X) u)) (va_Qv (fun u' => ∃ ph, u' = (ph, cInit, mm) ∧ SZ env (ph, cInit, mm) ∧ (∀ k i, (k, i) ∈ sK u' → k < 20) ∧ At u' 0 0 a0) (Po env s0 X) (fun q => s0 ≤ q)) 25 160 (fun q => s0 ≤ q) := by
  refine Met.ofW (cc := cX4_init) (maxL := 2) (ret := none) (by decide) rfl ?_
  intro p e s m args below meth c s₁ B hml hv
  obtain ⟨rfl, hv⟩ := hv
  have hx := B.exec
  have hb := B.bytes
  have hr := B.returns
  have hts : ∀ ww ∈ TT, ww.before #[.ref (a0)] s = true := fun ww hw => hv.2.1 ww hw _
  have hown : s.vm.findClass RX4 = some m.cls := findClass_of_methodNamed B.named
  have hlocks := B.notSynchronized
  have hin : meth.name = "<init>" := (name_of_methodNamed B.named B.method).1
  have hF : CallFix p m c cX4_init 2 s #[.ref (a0)] TT RX4 := ⟨hx, hb, hml, hown, hts⟩
  have hB := Bd.entry hv
  have hl := lv_entry ([.ref (a0)]) (n := 2) (Nat.le_of_ble_eq_true rfl)
  rw [lg_entry_eq]
  generalize (lg_sl ([.ref (a0)]) ++ List.replicate (2 - (lg_sl ([.ref (a0)])).length) Slot.unset).toArray = ls at hl ⊢
  have hl : lv_has ls 2 [(0, .ref (a0))] := hl
  subst hu
  have hk0 : ∀ k i, (k, i) ∈ sK (u00 env mm) ↔ (k = 2 ∧ (i < 0 ∨ (3 ≤ i ∧ i < 3 + 0))) ∨ ((k = 5 ∨ k = 6 ∨ k = 7) ∧ i < 0) := by intro k i; show (k, i) ∈ ([] : List (Nat × Nat)) ↔ _; simp only [List.not_mem_nil, false_iff]; omega
  have hM0 : sM (u00 env mm) = sM (u00 env mm) := rfl
  have h30 : sA (u00 env mm) 3 = sA (u00 env mm) 3 := rfl
  have h20 : (u00 env mm).2 = (c00, mm) := rfl
  have hN0 : gN (u00 env mm).2.1 = gN c00 := rfl
  have h70 : ∀ w j, 0 ≤ w → gI (u00 env mm).2.1 7 w j = 0 := fun _ _ _ => rfl
  refine lv_aload_n hx hb dX4_init_0 rfl (lv_at hl 0 rfl) ?_
  refine W.objInit hx hb hown (hts _ tw_1_21) (hts _ tw_1_22) (hts _ tw_1_23) rfl (by rw [hml]; exact hl.1) rfl dX4_init_1 (Nat.le_of_ble_eq_true rfl) (Nat.le_of_ble_eq_true rfl) ?_
  refine W.eq (g2 := F0 m 4 ls []) rfl ?_
  refine lv_aload_n hx hb dX4_init_4 rfl (lv_at hl 0 rfl) ?_
  refine lv_iconst (v := nI 4) hx hb dX4_init_5 (by decide) ?_
  refine w_newS hF hB tw_1_24 tw_1_25 (by decide) (Nat.le_of_ble_eq_true rfl) (Nat.le_of_ble_eq_true rfl) dX4_init_6 (fun qp H hB => ?_)
  replace hB := Bd.swap hB
  refine w_putX (fk := 0) (v := .ref (qp)) (ty := (.array (.object "FarStore$Site"))) [.ref (qp), .int 0, .int 0, .null, .null, .null] hF hB rfl in_X4 tyX4 tyX4_ok nmX4 (by decide) tw_1_81 (fun _ h => h) rfl hin rfl (by decide +kernel) rfl rfl (Nat.le_of_ble_eq_true rfl) rfl dX4_init_9 (fun H locs hB => ?_)
  refine lv_aload_n hx hb dX4_init_12 rfl (lv_at hl 0 rfl) ?_
  refine lv_iconst (v := nI 3) hx hb dX4_init_13 (by decide) ?_
  refine w_putY (fk := 1) (v := .int (nI (3))) (ty := .int) [.ref (qp), .int (nI (3)), .int 0, .null, .null, .null] hF hB rfl in_X4 tyX4 tyX4_ok nmX4 (by decide) tw_1_82 (fun _ h => h) rfl (by decide +kernel) rfl rfl (Nat.le_of_ble_eq_true rfl) rfl dX4_init_14 (fun H locs hB => ?_)
  refine lv_aload_n hx hb dX4_init_17 rfl (lv_at hl 0 rfl) ?_
  refine lv_iconst (v := nI 1) hx hb dX4_init_18 (by decide) ?_
  refine w_putY (fk := 2) (v := .int (nI (1))) (ty := .int) [.ref (qp), .int (nI (3)), .int (nI (1)), .null, .null, .null] hF hB rfl in_X4 tyX4 tyX4_ok nmX4 (by decide) tw_1_83 (fun _ h => h) rfl (by decide +kernel) rfl rfl (Nat.le_of_ble_eq_true rfl) rfl dX4_init_19 (fun H locs hB => ?_)
  refine lv_aload_n hx hb dX4_init_22 rfl (lv_at hl 0 rfl) ?_
  refine w_new (ci := 0) (fs := [.int 0, .null, .int 0]) hF hB rfl in_AL tyJx4a65c tyJx4a65c_ok tw_1_26 tw_1_27 tw_1_4 (fun j hj => by match j, hj with | 0, _ => rfl | 1, _ => rfl | 2, _ => rfl | n + 3, h => exact absurd h (by omega)) (Nat.le_of_ble_eq_true rfl) (Nat.le_of_ble_eq_true rfl) dX4_init_23 (fun ql0 H hB => ?_)
  refine lv_dup hx hb dX4_init_26 rfl ?_
  refine w_cv (r_I (As := []) (rest := [.ref (ql0), .ref (a0)]) hF hB (c_Jx4a65c_init_da8c8 l env s0 ((a0, .inr (5, [.ref (qp), .int (nI (3)), .int (nI (1)), .null, .null, .null])) :: (qp, .inl (env.2.1 3, 4, .inr (.inr (.inr (.inr (fun _ => none)))))) :: X) (u00 env mm) (ql0) 0 (fun k i h => by have := (hk0 k i).mp h; omega) (fun h => by have := (hk0 _ _).mp h; omega) (fun z hz => by have := (hk0 _ _).mp hz; omega) (by rw [hM0]; rfl) (by rw [hM0]; rfl) (by rw [h30]; rfl) (by rw [hN0]; rfl)) ci_Jx4a65c_init_da8c8 tw_1_28 ⟨rfl, rfl, Nat.le_of_ble_eq_true rfl, Nat.le_of_ble_eq_true rfl⟩ rfl hl.1 rfl (lv_room (Nat.le_of_ble_eq_true rfl)) dX4_init_27 ⟨Nat.le_of_ble_eq_true rfl, Nat.le_of_ble_eq_true rfl⟩) hB (fun u_3 H locs hq_2 hB => ?_)
  obtain rfl := hq_2
  obtain ⟨u1, hu1⟩ : ∃ z, z = mkK (u00 env mm) 2 0 ql0 := ⟨_, rfl⟩
  rw [← hu1] at hB
  have hk1 : ∀ k i, (k, i) ∈ sK u1 ↔ (k = 2 ∧ (i < 1 ∨ (3 ≤ i ∧ i < 3 + 0))) ∨ ((k = 5 ∨ k = 6 ∨ k = 7) ∧ i < 0) := by intro k i; rw [hu1, mkK_m, hk0]; omega
  have hM1 : sM u1 = sM (u00 env mm) := by rw [hu1]; exact hM0
  have h31 : sA u1 3 = sA (u00 env mm) 3 := by rw [hu1]; exact (mkK_k (by decide)).trans h30
  have h21 : u1.2 = (c00, mm) := by rw [hu1]; exact h20
  have hN1 : gN u1.2.1 = gN c00 := by rw [h21] <;> rfl
  have h71 : ∀ w j, 0 ≤ w → gI u1.2.1 7 w j = 0 := by intro w j hw; rw [h21]; rfl
  have hd1_2_0 : sA u1 2 0 = ql0 := by rw [hu1]; exact mkK_A _ _ _ _
  refine w_putX (fk := 3) (v := .ref (ql0)) (ty := (.object "java/util/ArrayList")) [.ref (qp), .int (nI (3)), .int (nI (1)), .ref (ql0), .null, .null] hF hB rfl in_X4 tyX4 tyX4_ok nmX4 (by decide) tw_1_84 (fun _ h => h) rfl hin rfl (by decide +kernel) rfl rfl (Nat.le_of_ble_eq_true rfl) rfl dX4_init_30 (fun H locs hB => ?_)
  refine lv_aload_n hx hb dX4_init_33 rfl (lv_at hl 0 rfl) ?_
  refine w_new (ci := 0) (fs := [.int 0, .null, .int 0]) hF hB rfl in_AL tyJx4a65c tyJx4a65c_ok tw_1_26 tw_1_27 tw_1_4 (fun j hj => by match j, hj with | 0, _ => rfl | 1, _ => rfl | 2, _ => rfl | n + 3, h => exact absurd h (by omega)) (Nat.le_of_ble_eq_true rfl) (Nat.le_of_ble_eq_true rfl) dX4_init_34 (fun ql1 H hB => ?_)
  refine lv_dup hx hb dX4_init_37 rfl ?_
  refine w_cv (r_I (As := []) (rest := [.ref (ql1), .ref (a0)]) hF hB (c_Jx4a65c_init_da8c8 l env s0 ((a0, .inr (5, [.ref (qp), .int (nI (3)), .int (nI (1)), .ref (ql0), .null, .null])) :: (qp, .inl (env.2.1 3, 4, .inr (.inr (.inr (.inr (fun _ => none)))))) :: X) u1 (ql1) 1 (fun k i h => by have := (hk1 k i).mp h; omega) (fun h => by have := (hk1 _ _).mp h; omega) (fun z hz => by have := (hk1 _ _).mp hz; omega) (by rw [hM1]; rfl) (by rw [hM1]; rfl) (by rw [h31]; rfl) (by rw [hN1]; rfl)) ci_Jx4a65c_init_da8c8 tw_1_28 ⟨rfl, rfl, Nat.le_of_ble_eq_true rfl, Nat.le_of_ble_eq_true rfl⟩ rfl hl.1 rfl (lv_room (Nat.le_of_ble_eq_true rfl)) dX4_init_38 ⟨Nat.le_of_ble_eq_true rfl, Nat.le_of_ble_eq_true rfl⟩) hB (fun u_6 H locs hq_5 hB => ?_)
  obtain rfl := hq_5
  obtain ⟨u2, hu2⟩ : ∃ z, z = mkK u1 2 1 ql1 := ⟨_, rfl⟩
  rw [← hu2] at hB
  have hk2 : ∀ k i, (k, i) ∈ sK u2 ↔ (k = 2 ∧ (i < 2 ∨ (3 ≤ i ∧ i < 3 + 0))) ∨ ((k = 5 ∨ k = 6 ∨ k = 7) ∧ i < 0) := by intro k i; rw [hu2, mkK_m, hk1]; omega
  have hM2 : sM u2 = sM (u00 env mm) := by rw [hu2]; exact hM1
  have h32 : sA u2 3 = sA (u00 env mm) 3 := by rw [hu2]; exact (mkK_k (by decide)).trans h31
  have h22 : u2.2 = (c00, mm) := by rw [hu2]; exact h21
  have hN2 : gN u2.2.1 = gN c00 := by rw [h22] <;> rfl
  have h72 : ∀ w j, 0 ≤ w → gI u2.2.1 7 w j = 0 := by intro w j hw; rw [h22]; rfl
  have hd2_2_0 : sA u2 2 0 = ql0 := by rw [hu2, mkK_o (by omega)]; exact hd1_2_0
  have hd2_2_1 : sA u2 2 1 = ql1 := by rw [hu2]; exact mkK_A _ _ _ _
  refine w_putX (fk := 4) (v := .ref (ql1)) (ty := (.object "java/util/ArrayList")) [.ref (qp), .int (nI (3)), .int (nI (1)), .ref (ql0), .ref (ql1), .null] hF hB rfl in_X4 tyX4 tyX4_ok nmX4 (by decide) tw_1_85 (fun _ h => h) rfl hin rfl (by decide +kernel) rfl rfl (Nat.le_of_ble_eq_true rfl) rfl dX4_init_41 (fun H locs hB => ?_)
  refine lv_aload_n hx hb dX4_init_44 rfl (lv_at hl 0 rfl) ?_
  refine w_new (ci := 0) (fs := [.int 0, .null, .int 0]) hF hB rfl in_AL tyJx4a65c tyJx4a65c_ok tw_1_26 tw_1_27 tw_1_4 (fun j hj => by match j, hj with | 0, _ => rfl | 1, _ => rfl | 2, _ => rfl | n + 3, h => exact absurd h (by omega)) (Nat.le_of_ble_eq_true rfl) (Nat.le_of_ble_eq_true rfl) dX4_init_45 (fun ql2 H hB => ?_)
  refine lv_dup hx hb dX4_init_48 rfl ?_
  refine w_cv (r_I (As := []) (rest := [.ref (ql2), .ref (a0)]) hF hB (c_Jx4a65c_init_da8c8 l env s0 ((a0, .inr (5, [.ref (qp), .int (nI (3)), .int (nI (1)), .ref (ql0), .ref (ql1), .null])) :: (qp, .inl (env.2.1 3, 4, .inr (.inr (.inr (.inr (fun _ => none)))))) :: X) u2 (ql2) 2 (fun k i h => by have := (hk2 k i).mp h; omega) (fun h => by have := (hk2 _ _).mp h; omega) (fun z hz => by have := (hk2 _ _).mp hz; omega) (by rw [hM2]; rfl) (by rw [hM2]; rfl) (by rw [h32]; rfl) (by rw [hN2]; rfl)) ci_Jx4a65c_init_da8c8 tw_1_28 ⟨rfl, rfl, Nat.le_of_ble_eq_true rfl, Nat.le_of_ble_eq_true rfl⟩ rfl hl.1 rfl (lv_room (Nat.le_of_ble_eq_true rfl)) dX4_init_49 ⟨Nat.le_of_ble_eq_true rfl, Nat.le_of_ble_eq_true rfl⟩) hB (fun u_9 H locs hq_8 hB => ?_)
  obtain rfl := hq_8
  obtain ⟨u3, hu3⟩ : ∃ z, z = mkK u2 2 2 ql2 := ⟨_, rfl⟩
  rw [← hu3] at hB
  have hk3 : ∀ k i, (k, i) ∈ sK u3 ↔ (k = 2 ∧ (i < 3 ∨ (3 ≤ i ∧ i < 3 + 0))) ∨ ((k = 5 ∨ k = 6 ∨ k = 7) ∧ i < 0) := by intro k i; rw [hu3, mkK_m, hk2]; omega
  have hM3 : sM u3 = sM (u00 env mm) := by rw [hu3]; exact hM2
  have h33 : sA u3 3 = sA (u00 env mm) 3 := by rw [hu3]; exact (mkK_k (by decide)).trans h32
  have h23 : u3.2 = (c00, mm) := by rw [hu3]; exact h22
  have hN3 : gN u3.2.1 = gN c00 := by rw [h23] <;> rfl
  have h73 : ∀ w j, 0 ≤ w → gI u3.2.1 7 w j = 0 := by intro w j hw; rw [h23]; rfl
  have hd3_2_0 : sA u3 2 0 = ql0 := by rw [hu3, mkK_o (by omega)]; exact hd2_2_0
  have hd3_2_1 : sA u3 2 1 = ql1 := by rw [hu3, mkK_o (by omega)]; exact hd2_2_1
  have hd3_2_2 : sA u3 2 2 = ql2 := by rw [hu3]; exact mkK_A _ _ _ _
  refine w_putX (fk := 5) (v := .ref (ql2)) (ty := (.object "java/util/ArrayList")) [.ref (qp), .int (nI (3)), .int (nI (1)), .ref (ql0), .ref (ql1), .ref (ql2)] hF hB rfl in_X4 tyX4 tyX4_ok nmX4 (by decide) tw_1_86 (fun _ h => h) rfl hin rfl (by decide +kernel) rfl rfl (Nat.le_of_ble_eq_true rfl) rfl dX4_init_52 (fun H locs hB => ?_)
  refine lv_iconst (v := nI 0) hx hb dX4_init_55 (by decide) ?_
  refine lv_istore_n (lv' := [(1, .int (nI (0))), (0, .ref (a0))]) hx hb dX4_init_56 rfl hl (by decide) rfl (fun ls hl => ?_)
  refine lv_iload_n hx hb dX4_init_57 rfl (lv_at hl 0 rfl) ?_
  refine lv_iconst (v := nI 4) hx hb dX4_init_58 (by decide) ?_
  refine w_icge_n (tgt := 82) (by decide) (by decide) hx hb dX4_init_59 (by decide) (fun c => absurd c (by decide)) (fun _ => ?_)
  refine lv_aload_n hx hb dX4_init_62 rfl (lv_at hl 1 rfl) ?_
  refine w_getX (fk := 0) (v := .ref (qp)) hF hB rfl in_X4 (by decide) tw_1_81 rfl rfl dX4_init_63 ?_
  refine lv_iload_n hx hb dX4_init_66 rfl (lv_at hl 0 rfl) ?_
  refine w_new (ci := 2) (fs := [.int 0, .null, .null, .null]) hF hB rfl in_X1 tyX1 tyX1_ok tw_1_24 tw_1_52 tw_1_5 (fun j hj => by match j, hj with | 0, _ => rfl | 1, _ => rfl | 2, _ => rfl | 3, _ => rfl | n + 4, h => exact absurd h (by omega)) (Nat.le_of_ble_eq_true rfl) (Nat.le_of_ble_eq_true rfl) dX4_init_67 (fun qs0 H hB => ?_)
  refine lv_dup hx hb dX4_init_70 rfl ?_
  refine lv_iload_n hx hb dX4_init_71 rfl (lv_at hl 0 rfl) ?_
  refine w_cv (r_IN (As := [.int (nI (0))]) (rest := [.ref (qs0), .int (nI (0)), .ref (qp)]) hF hB (c_X1_init l env s0 ((a0, .inr (5, [.ref (qp), .int (nI (3)), .int (nI (1)), .ref (ql0), .ref (ql1), .ref (ql2)])) :: (qp, .inl (env.2.1 3, 4, .inr (.inr (.inr (.inr (fun _ => none)))))) :: X) u3 (qs0) (0) (by decide) (fun k i h => by have := (hk3 k i).mp h; omega) (fun h => by have := (hk3 _ _).mp h; omega) (fun h => by have := (hk3 _ _).mp h; omega) (fun h => by have := (hk3 _ _).mp h; omega) (fun h => by have := (hk3 _ _).mp h; omega) (fun z hz => by have := (hk3 _ _).mp hz; omega) (by rw [hM3]; rfl) (by rw [hM3]; rfl) (by rw [h33]; rfl) (by rw [hN3]; rfl) (fun j => by rw [hN3]; rfl) (fun j => h73 _ j (by decide))) ci_X1_init tw_1_53 ⟨rfl, rfl, Nat.le_of_ble_eq_true rfl, Nat.le_of_ble_eq_true rfl⟩ rfl hl.1 rfl (lv_room (Nat.le_of_ble_eq_true rfl)) dX4_init_72 ⟨Nat.le_of_ble_eq_true rfl, Nat.le_of_ble_eq_true rfl⟩) hB (fun u_12 H locs hq_11 hB => ?_)
  obtain ⟨q6_0, qa_0, qh_0, rfl⟩ := hq_11
  obtain ⟨u4, hu4⟩ : ∃ z, z = mkS u3 qs0 q6_0 qa_0 qh_0 0 := ⟨_, rfl⟩
  rw [← hu4] at hB
  have hk4 : ∀ k i, (k, i) ∈ sK u4 ↔ (k = 2 ∧ (i < 3 ∨ (3 ≤ i ∧ i < 3 + 1))) ∨ ((k = 5 ∨ k = 6 ∨ k = 7) ∧ i < 1) := by intro k i; rw [hu4, mkS_m, hk3]; omega
  have hM4 : sM u4 = sM (u00 env mm) := by rw [hu4]; exact hM3
  have h34 : sA u4 3 = sA (u00 env mm) 3 := by rw [hu4]; exact (mkS_A3 _ _ _ _ _ _).trans h33
  have h24 : u4.2 = ((cFill c00 0 (-4) 12), mm) := by rw [hu4]; show (cFill u3.2.1 0 (-4) 12, u3.2.2) = _; rw [h23]
  have hN4 : gN u4.2.1 = gN c00 := by rw [h24] <;> (show gN (cFill c00 0 (-4) 12) = _; rw [cFill_N])
  have h74 : ∀ w j, 1 ≤ w → gI u4.2.1 7 w j = 0 := by intro w j hw; rw [h24]; show gI (cFill c00 0 (-4) 12) 7 w j = 0; rw [cFill_I2 (by omega)]; rfl
  have hd4_2_0 : sA u4 2 0 = ql0 := by rw [hu4, mkS_o (by omega)]; exact hd3_2_0
  have hd4_2_1 : sA u4 2 1 = ql1 := by rw [hu4, mkS_o (by omega)]; exact hd3_2_1
  have hd4_2_2 : sA u4 2 2 = ql2 := by rw [hu4, mkS_o (by omega)]; exact hd3_2_2
  have hd4_5_0 : sA u4 5 0 = qs0 := by rw [hu4]; exact mkK_A _ _ _ _
  refine w_astS (i := 0) (j := 0) hF hB ⟨(hk4 _ _).mpr (by omega), hd4_5_0⟩ (by decide) (by decide) dX4_init_75 (fun H locs hB => ?_)
  refine lv_iinc (v := nI 1) (lv' := [(1, .int (nI (1))), (0, .ref (a0))]) hx hb dX4_init_76 hl (k := 0) rfl (nI_add _ _) (by decide) rfl (fun ls hl => ?_)
  refine lv_goto (tgt := 57) hx hb dX4_init_79 (by decide) ?_
  refine lv_iload_n hx hb dX4_init_57 rfl (lv_at hl 0 rfl) ?_
  refine lv_iconst (v := nI 4) hx hb dX4_init_58 (by decide) ?_
  refine w_icge_n (tgt := 82) (by decide) (by decide) hx hb dX4_init_59 (by decide) (fun c => absurd c (by decide)) (fun _ => ?_)
  refine lv_aload_n hx hb dX4_init_62 rfl (lv_at hl 1 rfl) ?_
  refine w_getX (fk := 0) (v := .ref (qp)) hF hB rfl in_X4 (by decide) tw_1_81 rfl rfl dX4_init_63 ?_
  refine lv_iload_n hx hb dX4_init_66 rfl (lv_at hl 0 rfl) ?_
  refine w_new (ci := 2) (fs := [.int 0, .null, .null, .null]) hF hB rfl in_X1 tyX1 tyX1_ok tw_1_24 tw_1_52 tw_1_5 (fun j hj => by match j, hj with | 0, _ => rfl | 1, _ => rfl | 2, _ => rfl | 3, _ => rfl | n + 4, h => exact absurd h (by omega)) (Nat.le_of_ble_eq_true rfl) (Nat.le_of_ble_eq_true rfl) dX4_init_67 (fun qs1 H hB => ?_)
  refine lv_dup hx hb dX4_init_70 rfl ?_
  refine lv_iload_n hx hb dX4_init_71 rfl (lv_at hl 0 rfl) ?_
  refine w_cv (r_IN (As := [.int (nI (1))]) (rest := [.ref (qs1), .int (nI (1)), .ref (qp)]) hF hB (c_X1_init l env s0 ((a0, .inr (5, [.ref (qp), .int (nI (3)), .int (nI (1)), .ref (ql0), .ref (ql1), .ref (ql2)])) :: (qp, .inl (env.2.1 3, 4, .inr (.inr (.inr (.inr (va_up (fun _ => none) 0 (some qs0))))))) :: X) u4 (qs1) (1) (by decide) (fun k i h => by have := (hk4 k i).mp h; omega) (fun h => by have := (hk4 _ _).mp h; omega) (fun h => by have := (hk4 _ _).mp h; omega) (fun h => by have := (hk4 _ _).mp h; omega) (fun h => by have := (hk4 _ _).mp h; omega) (fun z hz => by have := (hk4 _ _).mp hz; omega) (by rw [hM4]; rfl) (by rw [hM4]; rfl) (by rw [h34]; rfl) (by rw [hN4]; rfl) (fun j => by rw [hN4]; rfl) (fun j => h74 _ j (by decide))) ci_X1_init tw_1_53 ⟨rfl, rfl, Nat.le_of_ble_eq_true rfl, Nat.le_of_ble_eq_true rfl⟩ rfl hl.1 rfl (lv_room (Nat.le_of_ble_eq_true rfl)) dX4_init_72 ⟨Nat.le_of_ble_eq_true rfl, Nat.le_of_ble_eq_true rfl⟩) hB (fun u_15 H locs hq_14 hB => ?_)
  obtain ⟨q6_1, qa_1, qh_1, rfl⟩ := hq_14
  obtain ⟨u5, hu5⟩ : ∃ z, z = mkS u4 qs1 q6_1 qa_1 qh_1 1 := ⟨_, rfl⟩
  rw [← hu5] at hB
  have hk5 : ∀ k i, (k, i) ∈ sK u5 ↔ (k = 2 ∧ (i < 3 ∨ (3 ≤ i ∧ i < 3 + 2))) ∨ ((k = 5 ∨ k = 6 ∨ k = 7) ∧ i < 2) := by intro k i; rw [hu5, mkS_m, hk4]; omega
  have hM5 : sM u5 = sM (u00 env mm) := by rw [hu5]; exact hM4
  have h35 : sA u5 3 = sA (u00 env mm) 3 := by rw [hu5]; exact (mkS_A3 _ _ _ _ _ _).trans h34
  have h25 : u5.2 = ((cFill (cFill c00 0 (-4) 12) 1 (-4) 12), mm) := by rw [hu5]; show (cFill u4.2.1 1 (-4) 12, u4.2.2) = _; rw [h24]
  have hN5 : gN u5.2.1 = gN c00 := by rw [h25] <;> (show gN (cFill (cFill c00 0 (-4) 12) 1 (-4) 12) = _; rw [cFill_N, cFill_N])
  have h75 : ∀ w j, 2 ≤ w → gI u5.2.1 7 w j = 0 := by intro w j hw; rw [h25]; show gI (cFill (cFill c00 0 (-4) 12) 1 (-4) 12) 7 w j = 0; rw [cFill_I2 (by omega), cFill_I2 (by omega)]; rfl
  have hd5_2_0 : sA u5 2 0 = ql0 := by rw [hu5, mkS_o (by omega)]; exact hd4_2_0
  have hd5_2_1 : sA u5 2 1 = ql1 := by rw [hu5, mkS_o (by omega)]; exact hd4_2_1
  have hd5_2_2 : sA u5 2 2 = ql2 := by rw [hu5, mkS_o (by omega)]; exact hd4_2_2
  have hd5_5_0 : sA u5 5 0 = qs0 := by rw [hu5, mkS_o (by omega)]; exact hd4_5_0
  have hd5_5_1 : sA u5 5 1 = qs1 := by rw [hu5]; exact mkK_A _ _ _ _
  refine w_astS (i := 1) (j := 1) hF hB ⟨(hk5 _ _).mpr (by omega), hd5_5_1⟩ (by decide) (by decide) dX4_init_75 (fun H locs hB => ?_)
  refine lv_iinc (v := nI 2) (lv' := [(1, .int (nI (2))), (0, .ref (a0))]) hx hb dX4_init_76 hl (k := 0) rfl (nI_add _ _) (by decide) rfl (fun ls hl => ?_)
  refine lv_goto (tgt := 57) hx hb dX4_init_79 (by decide) ?_
  refine lv_iload_n hx hb dX4_init_57 rfl (lv_at hl 0 rfl) ?_
  refine lv_iconst (v := nI 4) hx hb dX4_init_58 (by decide) ?_
  refine w_icge_n (tgt := 82) (by decide) (by decide) hx hb dX4_init_59 (by decide) (fun c => absurd c (by decide)) (fun _ => ?_)
  refine lv_aload_n hx hb dX4_init_62 rfl (lv_at hl 1 rfl) ?_
  refine w_getX (fk := 0) (v := .ref (qp)) hF hB rfl in_X4 (by decide) tw_1_81 rfl rfl dX4_init_63 ?_
  refine lv_iload_n hx hb dX4_init_66 rfl (lv_at hl 0 rfl) ?_
  refine w_new (ci := 2) (fs := [.int 0, .null, .null, .null]) hF hB rfl in_X1 tyX1 tyX1_ok tw_1_24 tw_1_52 tw_1_5 (fun j hj => by match j, hj with | 0, _ => rfl | 1, _ => rfl | 2, _ => rfl | 3, _ => rfl | n + 4, h => exact absurd h (by omega)) (Nat.le_of_ble_eq_true rfl) (Nat.le_of_ble_eq_true rfl) dX4_init_67 (fun qs2 H hB => ?_)
  refine lv_dup hx hb dX4_init_70 rfl ?_
  refine lv_iload_n hx hb dX4_init_71 rfl (lv_at hl 0 rfl) ?_
  refine w_cv (r_IN (As := [.int (nI (2))]) (rest := [.ref (qs2), .int (nI (2)), .ref (qp)]) hF hB (c_X1_init l env s0 ((a0, .inr (5, [.ref (qp), .int (nI (3)), .int (nI (1)), .ref (ql0), .ref (ql1), .ref (ql2)])) :: (qp, .inl (env.2.1 3, 4, .inr (.inr (.inr (.inr (va_up (va_up (fun _ => none) 0 (some qs0)) 1 (some qs1))))))) :: X) u5 (qs2) (2) (by decide) (fun k i h => by have := (hk5 k i).mp h; omega) (fun h => by have := (hk5 _ _).mp h; omega) (fun h => by have := (hk5 _ _).mp h; omega) (fun h => by have := (hk5 _ _).mp h; omega) (fun h => by have := (hk5 _ _).mp h; omega) (fun z hz => by have := (hk5 _ _).mp hz; omega) (by rw [hM5]; rfl) (by rw [hM5]; rfl) (by rw [h35]; rfl) (by rw [hN5]; rfl) (fun j => by rw [hN5]; rfl) (fun j => h75 _ j (by decide))) ci_X1_init tw_1_53 ⟨rfl, rfl, Nat.le_of_ble_eq_true rfl, Nat.le_of_ble_eq_true rfl⟩ rfl hl.1 rfl (lv_room (Nat.le_of_ble_eq_true rfl)) dX4_init_72 ⟨Nat.le_of_ble_eq_true rfl, Nat.le_of_ble_eq_true rfl⟩) hB (fun u_18 H locs hq_17 hB => ?_)
  obtain ⟨q6_2, qa_2, qh_2, rfl⟩ := hq_17
  obtain ⟨u6, hu6⟩ : ∃ z, z = mkS u5 qs2 q6_2 qa_2 qh_2 2 := ⟨_, rfl⟩
  rw [← hu6] at hB
  have hk6 : ∀ k i, (k, i) ∈ sK u6 ↔ (k = 2 ∧ (i < 3 ∨ (3 ≤ i ∧ i < 3 + 3))) ∨ ((k = 5 ∨ k = 6 ∨ k = 7) ∧ i < 3) := by intro k i; rw [hu6, mkS_m, hk5]; omega
  have hM6 : sM u6 = sM (u00 env mm) := by rw [hu6]; exact hM5
  have h36 : sA u6 3 = sA (u00 env mm) 3 := by rw [hu6]; exact (mkS_A3 _ _ _ _ _ _).trans h35
  have h26 : u6.2 = ((cFill (cFill (cFill c00 0 (-4) 12) 1 (-4) 12) 2 (-4) 12), mm) := by rw [hu6]; show (cFill u5.2.1 2 (-4) 12, u5.2.2) = _; rw [h25]
  have hN6 : gN u6.2.1 = gN c00 := by rw [h26] <;> (show gN (cFill (cFill (cFill c00 0 (-4) 12) 1 (-4) 12) 2 (-4) 12) = _; rw [cFill_N, cFill_N, cFill_N])
  have h76 : ∀ w j, 3 ≤ w → gI u6.2.1 7 w j = 0 := by intro w j hw; rw [h26]; show gI (cFill (cFill (cFill c00 0 (-4) 12) 1 (-4) 12) 2 (-4) 12) 7 w j = 0; rw [cFill_I2 (by omega), cFill_I2 (by omega), cFill_I2 (by omega)]; rfl
  have hd6_2_0 : sA u6 2 0 = ql0 := by rw [hu6, mkS_o (by omega)]; exact hd5_2_0
  have hd6_2_1 : sA u6 2 1 = ql1 := by rw [hu6, mkS_o (by omega)]; exact hd5_2_1
  have hd6_2_2 : sA u6 2 2 = ql2 := by rw [hu6, mkS_o (by omega)]; exact hd5_2_2
  have hd6_5_0 : sA u6 5 0 = qs0 := by rw [hu6, mkS_o (by omega)]; exact hd5_5_0
  have hd6_5_1 : sA u6 5 1 = qs1 := by rw [hu6, mkS_o (by omega)]; exact hd5_5_1
  have hd6_5_2 : sA u6 5 2 = qs2 := by rw [hu6]; exact mkK_A _ _ _ _
  refine w_astS (i := 2) (j := 2) hF hB ⟨(hk6 _ _).mpr (by omega), hd6_5_2⟩ (by decide) (by decide) dX4_init_75 (fun H locs hB => ?_)
  refine lv_iinc (v := nI 3) (lv' := [(1, .int (nI (3))), (0, .ref (a0))]) hx hb dX4_init_76 hl (k := 0) rfl (nI_add _ _) (by decide) rfl (fun ls hl => ?_)
  refine lv_goto (tgt := 57) hx hb dX4_init_79 (by decide) ?_
  refine lv_iload_n hx hb dX4_init_57 rfl (lv_at hl 0 rfl) ?_
  refine lv_iconst (v := nI 4) hx hb dX4_init_58 (by decide) ?_
  refine w_icge_n (tgt := 82) (by decide) (by decide) hx hb dX4_init_59 (by decide) (fun c => absurd c (by decide)) (fun _ => ?_)
  refine lv_aload_n hx hb dX4_init_62 rfl (lv_at hl 1 rfl) ?_
  refine w_getX (fk := 0) (v := .ref (qp)) hF hB rfl in_X4 (by decide) tw_1_81 rfl rfl dX4_init_63 ?_
  refine lv_iload_n hx hb dX4_init_66 rfl (lv_at hl 0 rfl) ?_
  refine w_new (ci := 2) (fs := [.int 0, .null, .null, .null]) hF hB rfl in_X1 tyX1 tyX1_ok tw_1_24 tw_1_52 tw_1_5 (fun j hj => by match j, hj with | 0, _ => rfl | 1, _ => rfl | 2, _ => rfl | 3, _ => rfl | n + 4, h => exact absurd h (by omega)) (Nat.le_of_ble_eq_true rfl) (Nat.le_of_ble_eq_true rfl) dX4_init_67 (fun qs3 H hB => ?_)
  refine lv_dup hx hb dX4_init_70 rfl ?_
  refine lv_iload_n hx hb dX4_init_71 rfl (lv_at hl 0 rfl) ?_
  refine w_cv (r_IN (As := [.int (nI (3))]) (rest := [.ref (qs3), .int (nI (3)), .ref (qp)]) hF hB (c_X1_init l env s0 ((a0, .inr (5, [.ref (qp), .int (nI (3)), .int (nI (1)), .ref (ql0), .ref (ql1), .ref (ql2)])) :: (qp, .inl (env.2.1 3, 4, .inr (.inr (.inr (.inr (va_up (va_up (va_up (fun _ => none) 0 (some qs0)) 1 (some qs1)) 2 (some qs2))))))) :: X) u6 (qs3) (3) (by decide) (fun k i h => by have := (hk6 k i).mp h; omega) (fun h => by have := (hk6 _ _).mp h; omega) (fun h => by have := (hk6 _ _).mp h; omega) (fun h => by have := (hk6 _ _).mp h; omega) (fun h => by have := (hk6 _ _).mp h; omega) (fun z hz => by have := (hk6 _ _).mp hz; omega) (by rw [hM6]; rfl) (by rw [hM6]; rfl) (by rw [h36]; rfl) (by rw [hN6]; rfl) (fun j => by rw [hN6]; rfl) (fun j => h76 _ j (by decide))) ci_X1_init tw_1_53 ⟨rfl, rfl, Nat.le_of_ble_eq_true rfl, Nat.le_of_ble_eq_true rfl⟩ rfl hl.1 rfl (lv_room (Nat.le_of_ble_eq_true rfl)) dX4_init_72 ⟨Nat.le_of_ble_eq_true rfl, Nat.le_of_ble_eq_true rfl⟩) hB (fun u_21 H locs hq_20 hB => ?_)
  obtain ⟨q6_3, qa_3, qh_3, rfl⟩ := hq_20
  obtain ⟨u7, hu7⟩ : ∃ z, z = mkS u6 qs3 q6_3 qa_3 qh_3 3 := ⟨_, rfl⟩
  rw [← hu7] at hB
  have hk7 : ∀ k i, (k, i) ∈ sK u7 ↔ (k = 2 ∧ (i < 3 ∨ (3 ≤ i ∧ i < 3 + 4))) ∨ ((k = 5 ∨ k = 6 ∨ k = 7) ∧ i < 4) := by intro k i; rw [hu7, mkS_m, hk6]; omega
  have hM7 : sM u7 = sM (u00 env mm) := by rw [hu7]; exact hM6
  have h37 : sA u7 3 = sA (u00 env mm) 3 := by rw [hu7]; exact (mkS_A3 _ _ _ _ _ _).trans h36
  have h27 : u7.2 = ((cFill (cFill (cFill (cFill c00 0 (-4) 12) 1 (-4) 12) 2 (-4) 12) 3 (-4) 12), mm) := by rw [hu7]; show (cFill u6.2.1 3 (-4) 12, u6.2.2) = _; rw [h26]
  have hN7 : gN u7.2.1 = gN c00 := by rw [h27] <;> (show gN (cFill (cFill (cFill (cFill c00 0 (-4) 12) 1 (-4) 12) 2 (-4) 12) 3 (-4) 12) = _; rw [cFill_N, cFill_N, cFill_N, cFill_N])
  have h77 : ∀ w j, 4 ≤ w → gI u7.2.1 7 w j = 0 := by intro w j hw; rw [h27]; show gI (cFill (cFill (cFill (cFill c00 0 (-4) 12) 1 (-4) 12) 2 (-4) 12) 3 (-4) 12) 7 w j = 0; rw [cFill_I2 (by omega), cFill_I2 (by omega), cFill_I2 (by omega), cFill_I2 (by omega)]; rfl
  have hd7_2_0 : sA u7 2 0 = ql0 := by rw [hu7, mkS_o (by omega)]; exact hd6_2_0
  have hd7_2_1 : sA u7 2 1 = ql1 := by rw [hu7, mkS_o (by omega)]; exact hd6_2_1
  have hd7_2_2 : sA u7 2 2 = ql2 := by rw [hu7, mkS_o (by omega)]; exact hd6_2_2
  have hd7_5_0 : sA u7 5 0 = qs0 := by rw [hu7, mkS_o (by omega)]; exact hd6_5_0
  have hd7_5_1 : sA u7 5 1 = qs1 := by rw [hu7, mkS_o (by omega)]; exact hd6_5_1
  have hd7_5_2 : sA u7 5 2 = qs2 := by rw [hu7, mkS_o (by omega)]; exact hd6_5_2
  have hd7_5_3 : sA u7 5 3 = qs3 := by rw [hu7]; exact mkK_A _ _ _ _
  refine w_astS (i := 3) (j := 3) hF hB ⟨(hk7 _ _).mpr (by omega), hd7_5_3⟩ (by decide) (by decide) dX4_init_75 (fun H locs hB => ?_)
  refine lv_iinc (v := nI 4) (lv' := [(1, .int (nI (4))), (0, .ref (a0))]) hx hb dX4_init_76 hl (k := 0) rfl (nI_add _ _) (by decide) rfl (fun ls hl => ?_)
  refine lv_goto (tgt := 57) hx hb dX4_init_79 (by decide) ?_
  refine lv_iload_n hx hb dX4_init_57 rfl (lv_at hl 0 rfl) ?_
  refine lv_iconst (v := nI 4) hx hb dX4_init_58 (by decide) ?_
  refine w_icge_n (tgt := 82) (by decide) (by decide) hx hb dX4_init_59 (by decide) (fun _ => ?_) (fun c => absurd c (by decide))
  replace hB := Bd.swap hB
  replace hB := Bd.row (f' := fun j => some (sA (mkK u7 1 0 qp) 5 j)) (fun j hj => by rw [mkK_k (by decide)]; match j, hj with | 0, _ => (rw [hd7_5_0]; rfl) | 1, _ => (rw [hd7_5_1]; rfl) | 2, _ => (rw [hd7_5_2]; rfl) | 3, _ => (rw [hd7_5_3]; rfl) | z + 4, hz => exact absurd hz (by omega)) hB
  replace hB := Bd.absorb (u' := mkK u7 1 0 qp) (k := 1) (i := 0) hB rfl (mkK_A _ _ _ _) (cn_1 env (mkK u7 1 0 qp) 0) (cn_mkI (fun k i h => by have := (hk7 k i).mp h; omega) (by decide) (fun h => by have := (hk7 _ _).mp h; omega) (fun w hw => ⟨fun z => absurd z (by decide), fun z => absurd z (by decide), fun z => absurd z (by decide)⟩))
  replace hB := Bd.absorb (u' := mkK (mkK u7 1 0 qp) 0 0 a0) (k := 0) (i := 0) hB rfl (mkK_A _ _ _ _) (by rw [cn_0]; rw [mkK_o (Or.inl (by decide)), mkK_A, mkK_k (by decide), mkK_k (by decide), hd7_2_0, hd7_2_1, hd7_2_2]; show (.inr (5, [.ref qp, .int (nI (gN u7.2.1 0 0 0)), .int (nI (gN u7.2.1 1 0 0)), .ref ql0, .ref ql1, .ref ql2]) : va_E) = _; rw [hN7]; rfl) (cn_K0 (fun h => by have := (hk7 _ _).mp ((mkK_m.mp h).resolve_right (by omega)); omega))
  have hZF : SZ env (mkK (mkK u7 1 0 qp) 0 0 a0) := SZ.start (fun k i => by rw [mkK_m, mkK_m, hk7]; omega) (hM7.trans rfl) (by rw [mkK_k (by decide), mkK_k (by decide), h37]; rfl) hN7
  have h2F : (mkK (mkK u7 1 0 qp) 0 0 a0) = ((mkK (mkK u7 1 0 qp) 0 0 a0).1, cInit, mm) := Prod.ext rfl (show u7.2 = (cInit, mm) from h27)
  have hLF : ∀ k i, (k, i) ∈ sK (mkK (mkK u7 1 0 qp) 0 0 a0) → k < 20 := fun k i h => by rw [mkK_m, mkK_m, hk7] at h; omega
  have hAtF : At (mkK (mkK u7 1 0 qp) 0 0 a0) 0 0 a0 := ⟨mkK_m.mpr (Or.inr ⟨rfl, rfl⟩), mkK_A _ _ _ _⟩
  generalize (mkK (mkK u7 1 0 qp) 0 0 a0) = uF at hB hZF h2F hLF hAtF
  have hZG := hZF
  rw [h2F] at hZG
  refine W.widen (k := 25) (n := 160) (by decide) (by decide) ?_
  exact w_vret hF hr hlocks hB (⟨uF.1, h2F, hZG, hLF, hAtF⟩) dX4_init_82

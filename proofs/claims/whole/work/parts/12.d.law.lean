set_option maxHeartbeats 4000000 in
set_option maxRecDepth 100000 in
theorem lw_c7 {p : Program} {l : Launch} {e : Env} {s : State} {m : MethodId} {below : List Frame} {meth : Method} {c : Code} {b L qx qm i cells slots : Nat} {xs : Nat → Int32} {env : Ev} {H : Heap} {locs : List Loc} {ls : Array Slot} {u : St} {Q : State → Prop} (C0 : lw_At p s m meth c b L xs) (hL : L ≤ 2560) (hi : 5 * i + 5 ≤ L) (hP : LI env s b qx qm i H locs ls u cells slots) (kk : ∀ H locs ls u cells slots, LI env s b qx qm i H locs ls u cells slots → W p l e room_1 s m #[Value.ref b] below meth c H locs cells slots Q (F0 m 845 ls [])) : W p l e room_1 s m #[Value.ref b] below meth c H locs cells slots Q (F0 m 441 ls []) := by
  obtain ⟨hx, hb, hr, hml, hown, hts0, hX, hbl, hlocks, hgv⟩ := C0
  obtain ⟨hB, hZ, hM, hAx, hAm, hS, ⟨rfl, rfl⟩, hl⟩ := hP
  have hts : ∀ ww ∈ TT, ww.before #[Value.ref b] s = true := fun ww hw => tb_start hts0 ww hw _
  have hF : CallFix p m c cL_law 4 s #[Value.ref b] TT RL := ⟨hx, hb, hml, hown, hts⟩
  have hrm0 := hS.1.room
  refine lv_aload_n hx hb dL_law_441 rfl (lv_at hl 1 rfl) ?_
  refine lv_aload_n hx hb dL_law_442 rfl (lv_at hl 0 rfl) ?_
  refine lv_iload_n hx hb dL_law_443 rfl (lv_at hl 3 rfl) ?_
  refine lv_iconst (v := nI 1) hx hb dL_law_444 (by decide) ?_
  refine w_iadd_n hx hb dL_law_445 ?_
  refine w_scr hx hb hX hbl hB hL (by omega) dL_law_446 ?_
  have hSS := hS.commit (xs ((5 * i) + 1))
  replace hkk : kc u.2.1 ≤ kc (ccommit u.2.1 (xs ((5 * i) + 1))).2 ∧ ks u.2.1 ≤ ks (ccommit u.2.1 (xs ((5 * i) + 1))).2 := kc_commit hS.1 (xs ((5 * i) + 1))
  have hrm := hSS.2.1.room
  refine w_ci (r_V (As := [.int (xs ((5 * i) + 1))]) (rest := []) hF hB (c_X4_commit l env s.heap.size [] u (qx) (0) hAx (xs ((5 * i) + 1)) hZ hS.2.2.1 hS.1.okm) cv_X4_commit tw_2_114 ⟨rfl, rfl, Nat.le_of_ble_eq_true rfl, Nat.le_of_ble_eq_true rfl⟩ (hB.recv hAx (cn_0 env u 0) rfl) rfl hl.1 rfl (lv_room (Nat.le_of_ble_eq_true rfl)) dL_law_447 ⟨(by show _ ≤ 600000; first | omega | (dsimp only; omega)), (by show _ ≤ 7302249; first | omega | (dsimp only; omega))⟩) hB (fun r ux H locs hq hB => ?_)
  obtain ⟨ph, rfl, hZ1, hK1, rfl⟩ := hq
  obtain ⟨u1, hu1⟩ : ∃ z : St, z = (ph, (ccommit u.2.1 (xs ((5 * i) + 1))).2, u.2.2) := ⟨_, rfl⟩
  rw [← hu1] at hB hZ1 hK1
  have e1 : u1.2.1 = (ccommit u.2.1 (xs ((5 * i) + 1))).2 := by rw [hu1]
  have e2 : u1.2.2 = u.2.2 := by rw [hu1]
  have hM1 : MI u1 := hM.kp hK1
  have hAx1 : At u1 0 0 qx := hK1.at (by decide) hAx
  have hAm1 : At u1 20 0 qm := hK1.at (by decide) hAm
  show W p l e _ s m _ below meth c H locs _ _ _ (F0 m _ ls [.int ((ccommit u.2.1 (xs ((5 * i) + 1))).1)])
  refine lv_aload_n hx hb dL_law_450 rfl (lv_at hl 2 rfl) ?_
  refine lv_aload_n hx hb dL_law_451 rfl (lv_at hl 0 rfl) ?_
  refine lv_iload_n hx hb dL_law_452 rfl (lv_at hl 3 rfl) ?_
  refine lv_iconst (v := nI 1) hx hb dL_law_453 (by decide) ?_
  refine w_iadd_n hx hb dL_law_454 ?_
  refine w_scr hx hb hX hbl hB hL (by omega) dL_law_455 ?_
  refine w_ci (r_V (As := [.int (xs ((5 * i) + 1))]) (rest := [.int ((ccommit u.2.1 (xs ((5 * i) + 1))).1)]) hF hB (c_X5_commit l env s.heap.size [] u1 (qm) (0) hAm1 (xs ((5 * i) + 1)) hM1 (by rw [e2]; exact hS.2.2.2.2) (by rw [e2]; exact hS.2.2.2.1) (by rw [e2]; exact hS.2.1.b68 hS.1) (by rw [e2]; exact hS.b62) (by rw [e2]; exact hS.q72) (by rw [e2]; intro t ht h57; rw [← hS.2.1.1.2.2.2.1] at ht; exact hS.cm70 ht ((hS.1.2.2.2.2.1 t).2.2.2.1 (by rw [(hS.2.1.2.2.1 t).2.1, h57]; decide)))) cv_X5_commit tw_4_2 ⟨rfl, rfl, Nat.le_of_ble_eq_true rfl, Nat.le_of_ble_eq_true rfl⟩ (hB.recv hAm1 (cn_20 env u1 0) rfl) rfl hl.1 rfl (lv_room (Nat.le_of_ble_eq_true rfl)) dL_law_456 ⟨(by show _ ≤ 600000; first | omega | (dsimp only; omega)), (by show _ ≤ 7302249; first | omega | (dsimp only; omega))⟩) hB (fun r ux H locs hq hB => ?_)
  obtain ⟨rfl, rfl⟩ := hq
  show W p l e _ s m _ below meth c H locs _ _ _ (F0 m _ ls [.int ((mcommit u1.2.2 (xs ((5 * i) + 1))).1), .int ((ccommit u.2.1 (xs ((5 * i) + 1))).1)])
  refine lv_icmp_eq (tgt := 845) hx hb dL_law_459 (by decide) (fun _ => ?_) (fun hne => absurd (by rw [e2]; exact hSS.1) hne)
  refine W.widen (k := 100 + kc (wM u1 (mcommit u1.2.2 (xs ((5 * i) + 1))).2).2.1) (n := 60000 + ks (wM u1 (mcommit u1.2.2 (xs ((5 * i) + 1))).2).2.1) (by show _ ≤ 100 + kc u1.2.1; rw [e1]; first | omega | (dsimp only; omega) | omega) (by show _ ≤ 60000 + ks u1.2.1; rw [e1]; first | omega | (dsimp only; omega) | omega) ?_
  exact kk H locs ls (wM u1 (mcommit u1.2.2 (xs ((5 * i) + 1))).2) _ _ ⟨hB, SZ.m (ph := u1.1) (c := u1.2.1) (m := u1.2.2) hZ1, hM1, hAx1, hAm1, (by show SS u1.2.1 _; rw [e1, e2]; exact hSS.2), ⟨rfl, rfl⟩, hl⟩
set_option maxHeartbeats 4000000 in
set_option maxRecDepth 100000 in
theorem lw_c8 {p : Program} {l : Launch} {e : Env} {s : State} {m : MethodId} {below : List Frame} {meth : Method} {c : Code} {b L qx qm i cells slots : Nat} {xs : Nat → Int32} {env : Ev} {H : Heap} {locs : List Loc} {ls : Array Slot} {u : St} {Q : State → Prop} (C0 : lw_At p s m meth c b L xs) (hL : L ≤ 2560) (hi : 5 * i + 5 ≤ L) (hP : LI env s b qx qm i H locs ls u cells slots) (kk : ∀ H locs ls u cells slots, LI env s b qx qm i H locs ls u cells slots → W p l e room_1 s m #[Value.ref b] below meth c H locs cells slots Q (F0 m 845 ls [])) : W p l e room_1 s m #[Value.ref b] below meth c H locs cells slots Q (F0 m 464 ls []) := by
  obtain ⟨hx, hb, hr, hml, hown, hts0, hX, hbl, hlocks, hgv⟩ := C0
  obtain ⟨hB, hZ, hM, hAx, hAm, hS, ⟨rfl, rfl⟩, hl⟩ := hP
  have hts : ∀ ww ∈ TT, ww.before #[Value.ref b] s = true := fun ww hw => tb_start hts0 ww hw _
  have hF : CallFix p m c cL_law 4 s #[Value.ref b] TT RL := ⟨hx, hb, hml, hown, hts⟩
  have hrm0 := hS.1.room
  refine lv_aload_n hx hb dL_law_464 rfl (lv_at hl 1 rfl) ?_
  refine lv_aload_n hx hb dL_law_465 rfl (lv_at hl 0 rfl) ?_
  refine lv_iload_n hx hb dL_law_466 rfl (lv_at hl 3 rfl) ?_
  refine lv_iconst (v := nI 1) hx hb dL_law_467 (by decide) ?_
  refine w_iadd_n hx hb dL_law_468 ?_
  refine w_scr hx hb hX hbl hB hL (by omega) dL_law_469 ?_
  have hSS := hS.abort (xs ((5 * i) + 1))
  have hkk : kc (cabort u.2.1 (xs ((5 * i) + 1))).2 = kc u.2.1 ∧ ks (cabort u.2.1 (xs ((5 * i) + 1))).2 = ks u.2.1 := kc_abort _ _
  refine w_ci (r_V (As := [.int (xs ((5 * i) + 1))]) (rest := []) hF hB (c_X4_abort l env s.heap.size [] u (qx) (0) hAx (xs ((5 * i) + 1)) hZ.1 hS.2.2.1) cv_X4_abort tw_2_193 ⟨rfl, rfl, Nat.le_of_ble_eq_true rfl, Nat.le_of_ble_eq_true rfl⟩ (hB.recv hAx (cn_0 env u 0) rfl) rfl hl.1 rfl (lv_room (Nat.le_of_ble_eq_true rfl)) dL_law_470 ⟨(by show _ ≤ 600000; first | omega | (dsimp only; omega)), (by show _ ≤ 7302249; first | omega | (dsimp only; omega))⟩) hB (fun r ux H locs hq hB => ?_)
  obtain ⟨rfl, rfl⟩ := hq
  have hZ1 : SZ env (wC u (cabort u.2.1 (xs ((5 * i) + 1))).2) := SZ.cn hZ (fun f hf => ab_N _ _ (by omega))
  obtain ⟨u1, hu1⟩ : ∃ z : St, z = wC u (cabort u.2.1 (xs ((5 * i) + 1))).2 := ⟨_, rfl⟩
  rw [← hu1] at hB hZ1
  have e1 : u1.2.1 = (cabort u.2.1 (xs ((5 * i) + 1))).2 := by rw [hu1]; rfl
  have e2 : u1.2.2 = u.2.2 := by rw [hu1]; rfl
  have hM1 : MI u1 := by rw [hu1]; exact hM
  have hAx1 : At u1 0 0 qx := by rw [hu1]; exact hAx
  have hAm1 : At u1 20 0 qm := by rw [hu1]; exact hAm
  show W p l e _ s m _ below meth c H locs _ _ _ (F0 m _ ls [.int ((cabort u.2.1 (xs ((5 * i) + 1))).1)])
  refine lv_aload_n hx hb dL_law_473 rfl (lv_at hl 2 rfl) ?_
  refine lv_aload_n hx hb dL_law_474 rfl (lv_at hl 0 rfl) ?_
  refine lv_iload_n hx hb dL_law_475 rfl (lv_at hl 3 rfl) ?_
  refine lv_iconst (v := nI 1) hx hb dL_law_476 (by decide) ?_
  refine w_iadd_n hx hb dL_law_477 ?_
  refine w_scr hx hb hX hbl hB hL (by omega) dL_law_478 ?_
  refine w_ci (r_V (As := [.int (xs ((5 * i) + 1))]) (rest := [.int ((cabort u.2.1 (xs ((5 * i) + 1))).1)]) hF hB (c_X5_abort l env s.heap.size [] u1 (qm) (0) hAm1 (xs ((5 * i) + 1)) hM1 (by rw [e2]; exact hS.2.2.2.2) (by rw [e2]; exact hS.2.2.2.1)) cv_X5_abort tw_4_38 ⟨rfl, rfl, Nat.le_of_ble_eq_true rfl, Nat.le_of_ble_eq_true rfl⟩ (hB.recv hAm1 (cn_20 env u1 0) rfl) rfl hl.1 rfl (lv_room (Nat.le_of_ble_eq_true rfl)) dL_law_479 ⟨(by show _ ≤ 600000; first | omega | (dsimp only; omega)), (by show _ ≤ 7302249; first | omega | (dsimp only; omega))⟩) hB (fun r ux H locs hq hB => ?_)
  obtain ⟨rfl, rfl⟩ := hq
  show W p l e _ s m _ below meth c H locs _ _ _ (F0 m _ ls [.int ((mabort u1.2.2 (xs ((5 * i) + 1))).1), .int ((cabort u.2.1 (xs ((5 * i) + 1))).1)])
  refine lv_icmp_eq (tgt := 845) hx hb dL_law_482 (by decide) (fun _ => ?_) (fun hne => absurd (by rw [e2]; exact hSS.1) hne)
  refine W.widen (k := 100 + kc (wM u1 (mabort u1.2.2 (xs ((5 * i) + 1))).2).2.1) (n := 60000 + ks (wM u1 (mabort u1.2.2 (xs ((5 * i) + 1))).2).2.1) (by show _ ≤ 100 + kc u1.2.1; rw [e1]; first | omega | (dsimp only; omega) | omega) (by show _ ≤ 60000 + ks u1.2.1; rw [e1]; first | omega | (dsimp only; omega) | omega) ?_
  exact kk H locs ls (wM u1 (mabort u1.2.2 (xs ((5 * i) + 1))).2) _ _ ⟨hB, SZ.m (ph := u1.1) (c := u1.2.1) (m := u1.2.2) hZ1, hM1, hAx1, hAm1, (by show SS u1.2.1 _; rw [e1, e2]; exact hSS.2), ⟨rfl, rfl⟩, hl⟩
set_option maxHeartbeats 4000000 in
set_option maxRecDepth 100000 in
theorem lw_c9 {p : Program} {l : Launch} {e : Env} {s : State} {m : MethodId} {below : List Frame} {meth : Method} {c : Code} {b L qx qm i cells slots : Nat} {xs : Nat → Int32} {env : Ev} {H : Heap} {locs : List Loc} {ls : Array Slot} {u : St} {Q : State → Prop} (C0 : lw_At p s m meth c b L xs) (hL : L ≤ 2560) (hi : 5 * i + 5 ≤ L) (hP : LI env s b qx qm i H locs ls u cells slots) (kk : ∀ H locs ls u cells slots, LI env s b qx qm i H locs ls u cells slots → W p l e room_1 s m #[Value.ref b] below meth c H locs cells slots Q (F0 m 845 ls [])) : W p l e room_1 s m #[Value.ref b] below meth c H locs cells slots Q (F0 m 487 ls []) := by
  obtain ⟨hx, hb, hr, hml, hown, hts0, hX, hbl, hlocks, hgv⟩ := C0
  obtain ⟨hB, hZ, hM, hAx, hAm, hS, ⟨rfl, rfl⟩, hl⟩ := hP
  have hts : ∀ ww ∈ TT, ww.before #[Value.ref b] s = true := fun ww hw => tb_start hts0 ww hw _
  have hF : CallFix p m c cL_law 4 s #[Value.ref b] TT RL := ⟨hx, hb, hml, hown, hts⟩
  have hrm0 := hS.1.room
  refine lv_aload_n hx hb dL_law_487 rfl (lv_at hl 1 rfl) ?_
  refine lv_aload_n hx hb dL_law_488 rfl (lv_at hl 0 rfl) ?_
  refine lv_iload_n hx hb dL_law_489 rfl (lv_at hl 3 rfl) ?_
  refine lv_iconst (v := nI 1) hx hb dL_law_490 (by decide) ?_
  refine w_iadd_n hx hb dL_law_491 ?_
  refine w_scr hx hb hX hbl hB hL (by omega) dL_law_492 ?_
  have hSS := hS.deliver (xs ((5 * i) + 1))
  replace hkk : kc u.2.1 ≤ kc (cdeliver u.2.1 (xs ((5 * i) + 1))).2 ∧ ks u.2.1 ≤ ks (cdeliver u.2.1 (xs ((5 * i) + 1))).2 := kc_deliver hS.1 (xs ((5 * i) + 1))
  have hrm := hSS.2.1.room
  refine w_ci (r_V (As := [.int (xs ((5 * i) + 1))]) (rest := []) hF hB (c_X4_deliver l env s.heap.size [] u (qx) (0) hAx (xs ((5 * i) + 1)) hZ hS.2.2.1 hS.1.okc) cv_X4_deliver tw_2_197 ⟨rfl, rfl, Nat.le_of_ble_eq_true rfl, Nat.le_of_ble_eq_true rfl⟩ (hB.recv hAx (cn_0 env u 0) rfl) rfl hl.1 rfl (lv_room (Nat.le_of_ble_eq_true rfl)) dL_law_493 ⟨(by show _ ≤ 600000; first | omega | (dsimp only; omega)), (by show _ ≤ 7302249; first | omega | (dsimp only; omega))⟩) hB (fun r ux H locs hq hB => ?_)
  obtain ⟨ph, rfl, hZ1, hK1, rfl⟩ := hq
  obtain ⟨u1, hu1⟩ : ∃ z : St, z = (ph, (cdeliver u.2.1 (xs ((5 * i) + 1))).2, u.2.2) := ⟨_, rfl⟩
  rw [← hu1] at hB hZ1 hK1
  have e1 : u1.2.1 = (cdeliver u.2.1 (xs ((5 * i) + 1))).2 := by rw [hu1]
  have e2 : u1.2.2 = u.2.2 := by rw [hu1]
  have hM1 : MI u1 := hM.kp hK1
  have hAx1 : At u1 0 0 qx := hK1.at (by decide) hAx
  have hAm1 : At u1 20 0 qm := hK1.at (by decide) hAm
  show W p l e _ s m _ below meth c H locs _ _ _ (F0 m _ ls [.int ((cdeliver u.2.1 (xs ((5 * i) + 1))).1)])
  refine lv_aload_n hx hb dL_law_496 rfl (lv_at hl 2 rfl) ?_
  refine lv_aload_n hx hb dL_law_497 rfl (lv_at hl 0 rfl) ?_
  refine lv_iload_n hx hb dL_law_498 rfl (lv_at hl 3 rfl) ?_
  refine lv_iconst (v := nI 1) hx hb dL_law_499 (by decide) ?_
  refine w_iadd_n hx hb dL_law_500 ?_
  refine w_scr hx hb hX hbl hB hL (by omega) dL_law_501 ?_
  refine w_ci (r_V (As := [.int (xs ((5 * i) + 1))]) (rest := [.int ((cdeliver u.2.1 (xs ((5 * i) + 1))).1)]) hF hB (c_X5_deliver l env s.heap.size [] u1 (qm) (0) hAm1 (xs ((5 * i) + 1)) hM1 (by rw [e2]; exact hS.2.2.2.2) (by rw [e2]; exact hS.2.2.2.1) (by rw [e2]; intro i hi _; exact hS.2.1.mok hS.1 (by rw [hS.2.1.1.2.2.2.2]; exact hi))) cv_X5_deliver tw_4_42 ⟨rfl, rfl, Nat.le_of_ble_eq_true rfl, Nat.le_of_ble_eq_true rfl⟩ (hB.recv hAm1 (cn_20 env u1 0) rfl) rfl hl.1 rfl (lv_room (Nat.le_of_ble_eq_true rfl)) dL_law_502 ⟨(by show _ ≤ 600000; first | omega | (dsimp only; omega)), (by show _ ≤ 7302249; first | omega | (dsimp only; omega))⟩) hB (fun r ux H locs hq hB => ?_)
  obtain ⟨rfl, rfl⟩ := hq
  show W p l e _ s m _ below meth c H locs _ _ _ (F0 m _ ls [.int ((mdeliver u1.2.2 (xs ((5 * i) + 1))).1), .int ((cdeliver u.2.1 (xs ((5 * i) + 1))).1)])
  refine lv_icmp_eq (tgt := 845) hx hb dL_law_505 (by decide) (fun _ => ?_) (fun hne => absurd (by rw [e2]; exact hSS.1) hne)
  refine W.widen (k := 100 + kc (wM u1 (mdeliver u1.2.2 (xs ((5 * i) + 1))).2).2.1) (n := 60000 + ks (wM u1 (mdeliver u1.2.2 (xs ((5 * i) + 1))).2).2.1) (by show _ ≤ 100 + kc u1.2.1; rw [e1]; first | omega | (dsimp only; omega) | omega) (by show _ ≤ 60000 + ks u1.2.1; rw [e1]; first | omega | (dsimp only; omega) | omega) ?_
  exact kk H locs ls (wM u1 (mdeliver u1.2.2 (xs ((5 * i) + 1))).2) _ _ ⟨hB, SZ.m (ph := u1.1) (c := u1.2.1) (m := u1.2.2) hZ1, hM1, hAx1, hAm1, (by show SS u1.2.1 _; rw [e1, e2]; exact hSS.2), ⟨rfl, rfl⟩, hl⟩
set_option maxHeartbeats 4000000 in
set_option maxRecDepth 100000 in
theorem lw_c10 {p : Program} {l : Launch} {e : Env} {s : State} {m : MethodId} {below : List Frame} {meth : Method} {c : Code} {b L qx qm i cells slots : Nat} {xs : Nat → Int32} {env : Ev} {H : Heap} {locs : List Loc} {ls : Array Slot} {u : St} {Q : State → Prop} (C0 : lw_At p s m meth c b L xs) (hL : L ≤ 2560) (hi : 5 * i + 5 ≤ L) (hP : LI env s b qx qm i H locs ls u cells slots) (kk : ∀ H locs ls u cells slots, LI env s b qx qm i H locs ls u cells slots → W p l e room_1 s m #[Value.ref b] below meth c H locs cells slots Q (F0 m 845 ls [])) : W p l e room_1 s m #[Value.ref b] below meth c H locs cells slots Q (F0 m 510 ls []) := by
  obtain ⟨hx, hb, hr, hml, hown, hts0, hX, hbl, hlocks, hgv⟩ := C0
  obtain ⟨hB, hZ, hM, hAx, hAm, hS, ⟨rfl, rfl⟩, hl⟩ := hP
  have hts : ∀ ww ∈ TT, ww.before #[Value.ref b] s = true := fun ww hw => tb_start hts0 ww hw _
  have hF : CallFix p m c cL_law 4 s #[Value.ref b] TT RL := ⟨hx, hb, hml, hown, hts⟩
  have hrm0 := hS.1.room
  refine lv_aload_n hx hb dL_law_510 rfl (lv_at hl 1 rfl) ?_
  refine lv_aload_n hx hb dL_law_511 rfl (lv_at hl 0 rfl) ?_
  refine lv_iload_n hx hb dL_law_512 rfl (lv_at hl 3 rfl) ?_
  refine lv_iconst (v := nI 1) hx hb dL_law_513 (by decide) ?_
  refine w_iadd_n hx hb dL_law_514 ?_
  refine w_scr hx hb hX hbl hB hL (by omega) dL_law_515 ?_
  have hSS := hS.all (xs ((5 * i) + 1))
  replace hkk : kc u.2.1 ≤ kc (call u.2.1 (xs ((5 * i) + 1))).2 ∧ ks u.2.1 ≤ ks (call u.2.1 (xs ((5 * i) + 1))).2 := kc_call hS.1 (xs ((5 * i) + 1))
  have hrm := hSS.2.1.room
  refine w_ci (r_V (As := [.int (xs ((5 * i) + 1))]) (rest := []) hF hB (c_X4_all l env s.heap.size [] u (qx) (0) hAx (xs ((5 * i) + 1)) hZ hS.2.2.1 (fun i => (hS.1.all i).okc) (fun i j hij => hS.1.kcA i j hij) (fun i => hS.1.nbA hS.2.2.1 i)) cv_X4_all tw_3_7 ⟨rfl, rfl, Nat.le_of_ble_eq_true rfl, Nat.le_of_ble_eq_true rfl⟩ (hB.recv hAx (cn_0 env u 0) rfl) rfl hl.1 rfl (lv_room (Nat.le_of_ble_eq_true rfl)) dL_law_516 ⟨(by show _ ≤ 600000; first | omega | (dsimp only; omega)), (by show _ ≤ 7302249; first | omega | (dsimp only; omega))⟩) hB (fun r ux H locs hq hB => ?_)
  obtain ⟨ph, rfl, hZ1, hK1, rfl⟩ := hq
  obtain ⟨u1, hu1⟩ : ∃ z : St, z = (ph, (call u.2.1 (xs ((5 * i) + 1))).2, u.2.2) := ⟨_, rfl⟩
  rw [← hu1] at hB hZ1 hK1
  have e1 : u1.2.1 = (call u.2.1 (xs ((5 * i) + 1))).2 := by rw [hu1]
  have e2 : u1.2.2 = u.2.2 := by rw [hu1]
  have hM1 : MI u1 := hM.kp hK1
  have hAx1 : At u1 0 0 qx := hK1.at (by decide) hAx
  have hAm1 : At u1 20 0 qm := hK1.at (by decide) hAm
  show W p l e _ s m _ below meth c H locs _ _ _ (F0 m _ ls [.int ((call u.2.1 (xs ((5 * i) + 1))).1)])
  refine lv_aload_n hx hb dL_law_519 rfl (lv_at hl 2 rfl) ?_
  refine lv_aload_n hx hb dL_law_520 rfl (lv_at hl 0 rfl) ?_
  refine lv_iload_n hx hb dL_law_521 rfl (lv_at hl 3 rfl) ?_
  refine lv_iconst (v := nI 1) hx hb dL_law_522 (by decide) ?_
  refine w_iadd_n hx hb dL_law_523 ?_
  refine w_scr hx hb hX hbl hB hL (by omega) dL_law_524 ?_
  refine w_ci (r_V (As := [.int (xs ((5 * i) + 1))]) (rest := [.int ((call u.2.1 (xs ((5 * i) + 1))).1)]) hF hB (c_X5_all l env s.heap.size [] u1 (qm) (0) hAm1 (xs ((5 * i) + 1)) hM1 (by rw [e2]; exact hS.2.2.2.2) (by rw [e2]; exact hS.2.2.2.1) Pm (by rw [e2]; exact ⟨_, hS⟩) Pm.step) cv_X5_all tw_4_62 ⟨rfl, rfl, Nat.le_of_ble_eq_true rfl, Nat.le_of_ble_eq_true rfl⟩ (hB.recv hAm1 (cn_20 env u1 0) rfl) rfl hl.1 rfl (lv_room (Nat.le_of_ble_eq_true rfl)) dL_law_525 ⟨(by show _ ≤ 600000; first | omega | (dsimp only; omega)), (by show _ ≤ 7302249; first | omega | (dsimp only; omega))⟩) hB (fun r ux H locs hq hB => ?_)
  obtain ⟨rfl, rfl⟩ := hq
  show W p l e _ s m _ below meth c H locs _ _ _ (F0 m _ ls [.int ((mall u1.2.2 (xs ((5 * i) + 1))).1), .int ((call u.2.1 (xs ((5 * i) + 1))).1)])
  refine lv_icmp_eq (tgt := 845) hx hb dL_law_528 (by decide) (fun _ => ?_) (fun hne => absurd (by rw [e2]; exact hSS.1) hne)
  refine W.widen (k := 100 + kc (wM u1 (mall u1.2.2 (xs ((5 * i) + 1))).2).2.1) (n := 60000 + ks (wM u1 (mall u1.2.2 (xs ((5 * i) + 1))).2).2.1) (by show _ ≤ 100 + kc u1.2.1; rw [e1]; first | omega | (dsimp only; omega) | omega) (by show _ ≤ 60000 + ks u1.2.1; rw [e1]; first | omega | (dsimp only; omega) | omega) ?_
  exact kk H locs ls (wM u1 (mall u1.2.2 (xs ((5 * i) + 1))).2) _ _ ⟨hB, SZ.m (ph := u1.1) (c := u1.2.1) (m := u1.2.2) hZ1, hM1, hAx1, hAm1, (by show SS u1.2.1 _; rw [e1, e2]; exact hSS.2), ⟨rfl, rfl⟩, hl⟩
set_option maxHeartbeats 4000000 in
set_option maxRecDepth 100000 in
theorem lw_c11 {p : Program} {l : Launch} {e : Env} {s : State} {m : MethodId} {below : List Frame} {meth : Method} {c : Code} {b L qx qm i cells slots : Nat} {xs : Nat → Int32} {env : Ev} {H : Heap} {locs : List Loc} {ls : Array Slot} {u : St} {Q : State → Prop} (C0 : lw_At p s m meth c b L xs) (hL : L ≤ 2560) (hi : 5 * i + 5 ≤ L) (hP : LI env s b qx qm i H locs ls u cells slots) (kk : ∀ H locs ls u cells slots, LI env s b qx qm i H locs ls u cells slots → W p l e room_1 s m #[Value.ref b] below meth c H locs cells slots Q (F0 m 845 ls [])) : W p l e room_1 s m #[Value.ref b] below meth c H locs cells slots Q (F0 m 533 ls []) := by
  obtain ⟨hx, hb, hr, hml, hown, hts0, hX, hbl, hlocks, hgv⟩ := C0
  obtain ⟨hB, hZ, hM, hAx, hAm, hS, ⟨rfl, rfl⟩, hl⟩ := hP
  have hts : ∀ ww ∈ TT, ww.before #[Value.ref b] s = true := fun ww hw => tb_start hts0 ww hw _
  have hF : CallFix p m c cL_law 4 s #[Value.ref b] TT RL := ⟨hx, hb, hml, hown, hts⟩
  have hrm0 := hS.1.room
  refine lv_aload_n hx hb dL_law_533 rfl (lv_at hl 1 rfl) ?_
  refine lv_aload_n hx hb dL_law_534 rfl (lv_at hl 0 rfl) ?_
  refine lv_iload_n hx hb dL_law_535 rfl (lv_at hl 3 rfl) ?_
  refine lv_iconst (v := nI 1) hx hb dL_law_536 (by decide) ?_
  refine w_iadd_n hx hb dL_law_537 ?_
  refine w_scr hx hb hX hbl hB hL (by omega) dL_law_538 ?_
  refine lv_aload_n hx hb dL_law_539 rfl (lv_at hl 0 rfl) ?_
  refine lv_iload_n hx hb dL_law_540 rfl (lv_at hl 3 rfl) ?_
  refine lv_iconst (v := nI 2) hx hb dL_law_541 (by decide) ?_
  refine w_iadd_n hx hb dL_law_542 ?_
  refine w_scr hx hb hX hbl hB hL (by omega) dL_law_543 ?_
  have hSS := hS.message (xs ((5 * i) + 1)) (xs ((5 * i) + 2))
  refine w_ci (r_V (As := [.int (xs ((5 * i) + 1)), .int (xs ((5 * i) + 2))]) (rest := []) hF hB (c_X4_message l env s.heap.size [] u (qx) (0) hAx (xs ((5 * i) + 1)) (xs ((5 * i) + 2)) hZ.1 hS.2.2.1) cv_X4_message tw_3_15 ⟨rfl, rfl, Nat.le_of_ble_eq_true rfl, Nat.le_of_ble_eq_true rfl⟩ (hB.recv hAx (cn_0 env u 0) rfl) rfl hl.1 rfl (lv_room (Nat.le_of_ble_eq_true rfl)) dL_law_544 ⟨(by show _ ≤ 600000; first | omega | (dsimp only; omega)), (by show _ ≤ 7302249; first | omega | (dsimp only; omega))⟩) hB (fun r ux H locs hq hB => ?_)
  obtain ⟨rfl, rfl⟩ := hq
  have e1 : u.2.1 = u.2.1 := rfl
  have e2 : u.2.2 = u.2.2 := rfl
  have hM1 := hM
  have hAx1 := hAx
  have hAm1 := hAm
  have hZ1 := hZ
  show W p l e _ s m _ below meth c H locs _ _ _ (F0 m _ ls [.int (cmessage u.2.1 (xs ((5 * i) + 1)) (xs ((5 * i) + 2)))])
  refine lv_aload_n hx hb dL_law_547 rfl (lv_at hl 2 rfl) ?_
  refine lv_aload_n hx hb dL_law_548 rfl (lv_at hl 0 rfl) ?_
  refine lv_iload_n hx hb dL_law_549 rfl (lv_at hl 3 rfl) ?_
  refine lv_iconst (v := nI 1) hx hb dL_law_550 (by decide) ?_
  refine w_iadd_n hx hb dL_law_551 ?_
  refine w_scr hx hb hX hbl hB hL (by omega) dL_law_552 ?_
  refine lv_aload_n hx hb dL_law_553 rfl (lv_at hl 0 rfl) ?_
  refine lv_iload_n hx hb dL_law_554 rfl (lv_at hl 3 rfl) ?_
  refine lv_iconst (v := nI 2) hx hb dL_law_555 (by decide) ?_
  refine w_iadd_n hx hb dL_law_556 ?_
  refine w_scr hx hb hX hbl hB hL (by omega) dL_law_557 ?_
  refine w_ci (r_V (As := [.int (xs ((5 * i) + 1)), .int (xs ((5 * i) + 2))]) (rest := [.int (cmessage u.2.1 (xs ((5 * i) + 1)) (xs ((5 * i) + 2)))]) hF hB (c_X5_message l env s.heap.size [] u (qm) (0) hAm1 (xs ((5 * i) + 1)) (xs ((5 * i) + 2)) hM1 (by rw [e2]; exact hS.2.2.2.2) (by rw [e2]; exact hS.2.2.2.1)) cv_X5_message tw_4_67 ⟨rfl, rfl, Nat.le_of_ble_eq_true rfl, Nat.le_of_ble_eq_true rfl⟩ (hB.recv hAm1 (cn_20 env u 0) rfl) rfl hl.1 rfl (lv_room (Nat.le_of_ble_eq_true rfl)) dL_law_558 ⟨(by show _ ≤ 600000; first | omega | (dsimp only; omega)), (by show _ ≤ 7302249; first | omega | (dsimp only; omega))⟩) hB (fun r ux H locs hq hB => ?_)
  obtain ⟨rfl, rfl⟩ := hq
  show W p l e _ s m _ below meth c H locs _ _ _ (F0 m _ ls [.int (mmessage u.2.2 (xs ((5 * i) + 1)) (xs ((5 * i) + 2))), .int (cmessage u.2.1 (xs ((5 * i) + 1)) (xs ((5 * i) + 2)))])
  refine lv_icmp_eq (tgt := 845) hx hb dL_law_561 (by decide) (fun _ => ?_) (fun hne => absurd (hSS) hne)
  refine W.widen (k := 100 + kc u.2.1) (n := 60000 + ks u.2.1) (by show _ ≤ 100 + kc u.2.1; first | omega | (dsimp only; omega) | omega) (by show _ ≤ 60000 + ks u.2.1; first | omega | (dsimp only; omega) | omega) ?_
  exact kk H locs ls u _ _ ⟨hB, hZ, hM, hAx, hAm, hS, ⟨rfl, rfl⟩, hl⟩
set_option maxHeartbeats 4000000 in
set_option maxRecDepth 100000 in
theorem lw_c12 {p : Program} {l : Launch} {e : Env} {s : State} {m : MethodId} {below : List Frame} {meth : Method} {c : Code} {b L qx qm i cells slots : Nat} {xs : Nat → Int32} {env : Ev} {H : Heap} {locs : List Loc} {ls : Array Slot} {u : St} {Q : State → Prop} (C0 : lw_At p s m meth c b L xs) (hL : L ≤ 2560) (hi : 5 * i + 5 ≤ L) (hP : LI env s b qx qm i H locs ls u cells slots) (kk : ∀ H locs ls u cells slots, LI env s b qx qm i H locs ls u cells slots → W p l e room_1 s m #[Value.ref b] below meth c H locs cells slots Q (F0 m 845 ls [])) : W p l e room_1 s m #[Value.ref b] below meth c H locs cells slots Q (F0 m 566 ls []) := by
  obtain ⟨hx, hb, hr, hml, hown, hts0, hX, hbl, hlocks, hgv⟩ := C0
  obtain ⟨hB, hZ, hM, hAx, hAm, hS, ⟨rfl, rfl⟩, hl⟩ := hP
  have hts : ∀ ww ∈ TT, ww.before #[Value.ref b] s = true := fun ww hw => tb_start hts0 ww hw _
  have hF : CallFix p m c cL_law 4 s #[Value.ref b] TT RL := ⟨hx, hb, hml, hown, hts⟩
  have hrm0 := hS.1.room
  refine lv_aload_n hx hb dL_law_566 rfl (lv_at hl 1 rfl) ?_
  refine lv_aload_n hx hb dL_law_567 rfl (lv_at hl 0 rfl) ?_
  refine lv_iload_n hx hb dL_law_568 rfl (lv_at hl 3 rfl) ?_
  refine lv_iconst (v := nI 1) hx hb dL_law_569 (by decide) ?_
  refine w_iadd_n hx hb dL_law_570 ?_
  refine w_scr hx hb hX hbl hB hL (by omega) dL_law_571 ?_
  refine lv_aload_n hx hb dL_law_572 rfl (lv_at hl 0 rfl) ?_
  refine lv_iload_n hx hb dL_law_573 rfl (lv_at hl 3 rfl) ?_
  refine lv_iconst (v := nI 2) hx hb dL_law_574 (by decide) ?_
  refine w_iadd_n hx hb dL_law_575 ?_
  refine w_scr hx hb hX hbl hB hL (by omega) dL_law_576 ?_
  have hSS := hS.told (xs ((5 * i) + 1)) (xs ((5 * i) + 2))
  refine w_ci (r_V (As := [.int (xs ((5 * i) + 1)), .int (xs ((5 * i) + 2))]) (rest := []) hF hB (c_X4_told l env s.heap.size [] u (qx) (0) hAx (xs ((5 * i) + 1)) (xs ((5 * i) + 2)) hZ.1 hS.2.2.1 (Nat.le_trans (by decide) hS.1.1.1.1)) cv_X4_told tw_3_22 ⟨rfl, rfl, Nat.le_of_ble_eq_true rfl, Nat.le_of_ble_eq_true rfl⟩ (hB.recv hAx (cn_0 env u 0) rfl) rfl hl.1 rfl (lv_room (Nat.le_of_ble_eq_true rfl)) dL_law_577 ⟨(by show _ ≤ 600000; first | omega | (dsimp only; omega)), (by show _ ≤ 7302249; first | omega | (dsimp only; omega))⟩) hB (fun r ux H locs hq hB => ?_)
  obtain ⟨rfl, rfl⟩ := hq
  have e1 : u.2.1 = u.2.1 := rfl
  have e2 : u.2.2 = u.2.2 := rfl
  have hM1 := hM
  have hAx1 := hAx
  have hAm1 := hAm
  have hZ1 := hZ
  show W p l e _ s m _ below meth c H locs _ _ _ (F0 m _ ls [.int (ctold u.2.1 (xs ((5 * i) + 1)) (xs ((5 * i) + 2)))])
  refine lv_aload_n hx hb dL_law_580 rfl (lv_at hl 2 rfl) ?_
  refine lv_aload_n hx hb dL_law_581 rfl (lv_at hl 0 rfl) ?_
  refine lv_iload_n hx hb dL_law_582 rfl (lv_at hl 3 rfl) ?_
  refine lv_iconst (v := nI 1) hx hb dL_law_583 (by decide) ?_
  refine w_iadd_n hx hb dL_law_584 ?_
  refine w_scr hx hb hX hbl hB hL (by omega) dL_law_585 ?_
  refine lv_aload_n hx hb dL_law_586 rfl (lv_at hl 0 rfl) ?_
  refine lv_iload_n hx hb dL_law_587 rfl (lv_at hl 3 rfl) ?_
  refine lv_iconst (v := nI 2) hx hb dL_law_588 (by decide) ?_
  refine w_iadd_n hx hb dL_law_589 ?_
  refine w_scr hx hb hX hbl hB hL (by omega) dL_law_590 ?_
  refine w_ci (r_V (As := [.int (xs ((5 * i) + 1)), .int (xs ((5 * i) + 2))]) (rest := [.int (ctold u.2.1 (xs ((5 * i) + 1)) (xs ((5 * i) + 2)))]) hF hB (c_X5_told l env s.heap.size [] u (qm) (0) hAm1 (xs ((5 * i) + 1)) (xs ((5 * i) + 2)) hM1 (by rw [e2]; exact hS.2.2.2.2) (by rw [e2]; exact hS.2.2.2.1) (by rw [e2, ← hS.2.1.1.1]; exact Nat.le_trans (by decide) hS.1.1.1.1)) cv_X5_told tw_4_71 ⟨rfl, rfl, Nat.le_of_ble_eq_true rfl, Nat.le_of_ble_eq_true rfl⟩ (hB.recv hAm1 (cn_20 env u 0) rfl) rfl hl.1 rfl (lv_room (Nat.le_of_ble_eq_true rfl)) dL_law_591 ⟨(by show _ ≤ 600000; first | omega | (dsimp only; omega)), (by show _ ≤ 7302249; first | omega | (dsimp only; omega))⟩) hB (fun r ux H locs hq hB => ?_)
  obtain ⟨rfl, rfl⟩ := hq
  show W p l e _ s m _ below meth c H locs _ _ _ (F0 m _ ls [.int (mtold u.2.2 (xs ((5 * i) + 1)) (xs ((5 * i) + 2))), .int (ctold u.2.1 (xs ((5 * i) + 1)) (xs ((5 * i) + 2)))])
  refine lv_icmp_eq (tgt := 845) hx hb dL_law_594 (by decide) (fun _ => ?_) (fun hne => absurd (hSS) hne)
  refine W.widen (k := 100 + kc u.2.1) (n := 60000 + ks u.2.1) (by show _ ≤ 100 + kc u.2.1; first | omega | (dsimp only; omega) | omega) (by show _ ≤ 60000 + ks u.2.1; first | omega | (dsimp only; omega) | omega) ?_
  exact kk H locs ls u _ _ ⟨hB, hZ, hM, hAx, hAm, hS, ⟨rfl, rfl⟩, hl⟩
set_option maxHeartbeats 4000000 in
set_option maxRecDepth 100000 in
theorem lw_c13 {p : Program} {l : Launch} {e : Env} {s : State} {m : MethodId} {below : List Frame} {meth : Method} {c : Code} {b L qx qm i cells slots : Nat} {xs : Nat → Int32} {env : Ev} {H : Heap} {locs : List Loc} {ls : Array Slot} {u : St} {Q : State → Prop} (C0 : lw_At p s m meth c b L xs) (hL : L ≤ 2560) (hi : 5 * i + 5 ≤ L) (hP : LI env s b qx qm i H locs ls u cells slots) (kk : ∀ H locs ls u cells slots, LI env s b qx qm i H locs ls u cells slots → W p l e room_1 s m #[Value.ref b] below meth c H locs cells slots Q (F0 m 845 ls [])) : W p l e room_1 s m #[Value.ref b] below meth c H locs cells slots Q (F0 m 599 ls []) := by
  obtain ⟨hx, hb, hr, hml, hown, hts0, hX, hbl, hlocks, hgv⟩ := C0
  obtain ⟨hB, hZ, hM, hAx, hAm, hS, ⟨rfl, rfl⟩, hl⟩ := hP
  have hts : ∀ ww ∈ TT, ww.before #[Value.ref b] s = true := fun ww hw => tb_start hts0 ww hw _
  have hF : CallFix p m c cL_law 4 s #[Value.ref b] TT RL := ⟨hx, hb, hml, hown, hts⟩
  have hrm0 := hS.1.room
  refine lv_aload_n hx hb dL_law_599 rfl (lv_at hl 1 rfl) ?_
  refine lv_aload_n hx hb dL_law_600 rfl (lv_at hl 0 rfl) ?_
  refine lv_iload_n hx hb dL_law_601 rfl (lv_at hl 3 rfl) ?_
  refine lv_iconst (v := nI 1) hx hb dL_law_602 (by decide) ?_
  refine w_iadd_n hx hb dL_law_603 ?_
  refine w_scr hx hb hX hbl hB hL (by omega) dL_law_604 ?_
  refine lv_aload_n hx hb dL_law_605 rfl (lv_at hl 0 rfl) ?_
  refine lv_iload_n hx hb dL_law_606 rfl (lv_at hl 3 rfl) ?_
  refine lv_iconst (v := nI 2) hx hb dL_law_607 (by decide) ?_
  refine w_iadd_n hx hb dL_law_608 ?_
  refine w_scr hx hb hX hbl hB hL (by omega) dL_law_609 ?_
  have hSS := hS.start (xs ((5 * i) + 1)) (xs ((5 * i) + 2))
  refine w_ci (r_V (As := [.int (xs ((5 * i) + 1)), .int (xs ((5 * i) + 2))]) (rest := []) hF hB (c_X4_start l env s.heap.size [] u (qx) (0) hAx (xs ((5 * i) + 1)) (xs ((5 * i) + 2)) hZ.1 hS.2.2.1) cv_X4_start tw_3_35 ⟨rfl, rfl, Nat.le_of_ble_eq_true rfl, Nat.le_of_ble_eq_true rfl⟩ (hB.recv hAx (cn_0 env u 0) rfl) rfl hl.1 rfl (lv_room (Nat.le_of_ble_eq_true rfl)) dL_law_610 ⟨(by show _ ≤ 600000; first | omega | (dsimp only; omega)), (by show _ ≤ 7302249; first | omega | (dsimp only; omega))⟩) hB (fun r ux H locs hq hB => ?_)
  obtain ⟨rfl, rfl⟩ := hq
  have e1 : u.2.1 = u.2.1 := rfl
  have e2 : u.2.2 = u.2.2 := rfl
  have hM1 := hM
  have hAx1 := hAx
  have hAm1 := hAm
  have hZ1 := hZ
  show W p l e _ s m _ below meth c H locs _ _ _ (F0 m _ ls [.int (cstart u.2.1 (xs ((5 * i) + 1)) (xs ((5 * i) + 2)))])
  refine lv_aload_n hx hb dL_law_613 rfl (lv_at hl 2 rfl) ?_
  refine lv_aload_n hx hb dL_law_614 rfl (lv_at hl 0 rfl) ?_
  refine lv_iload_n hx hb dL_law_615 rfl (lv_at hl 3 rfl) ?_
  refine lv_iconst (v := nI 1) hx hb dL_law_616 (by decide) ?_
  refine w_iadd_n hx hb dL_law_617 ?_
  refine w_scr hx hb hX hbl hB hL (by omega) dL_law_618 ?_
  refine lv_aload_n hx hb dL_law_619 rfl (lv_at hl 0 rfl) ?_
  refine lv_iload_n hx hb dL_law_620 rfl (lv_at hl 3 rfl) ?_
  refine lv_iconst (v := nI 2) hx hb dL_law_621 (by decide) ?_
  refine w_iadd_n hx hb dL_law_622 ?_
  refine w_scr hx hb hX hbl hB hL (by omega) dL_law_623 ?_
  refine w_ci (r_V (As := [.int (xs ((5 * i) + 1)), .int (xs ((5 * i) + 2))]) (rest := [.int (cstart u.2.1 (xs ((5 * i) + 1)) (xs ((5 * i) + 2)))]) hF hB (c_X5_start l env s.heap.size [] u (qm) (0) hAm1 (xs ((5 * i) + 1)) (xs ((5 * i) + 2)) hM1 (by rw [e2]; exact hS.2.2.2.2) (by rw [e2]; exact hS.2.2.2.1)) cv_X5_start tw_4_79 ⟨rfl, rfl, Nat.le_of_ble_eq_true rfl, Nat.le_of_ble_eq_true rfl⟩ (hB.recv hAm1 (cn_20 env u 0) rfl) rfl hl.1 rfl (lv_room (Nat.le_of_ble_eq_true rfl)) dL_law_624 ⟨(by show _ ≤ 600000; first | omega | (dsimp only; omega)), (by show _ ≤ 7302249; first | omega | (dsimp only; omega))⟩) hB (fun r ux H locs hq hB => ?_)
  obtain ⟨rfl, rfl⟩ := hq
  show W p l e _ s m _ below meth c H locs _ _ _ (F0 m _ ls [.int (mstart u.2.2 (xs ((5 * i) + 1)) (xs ((5 * i) + 2))), .int (cstart u.2.1 (xs ((5 * i) + 1)) (xs ((5 * i) + 2)))])
  refine lv_icmp_eq (tgt := 845) hx hb dL_law_627 (by decide) (fun _ => ?_) (fun hne => absurd (hSS) hne)
  refine W.widen (k := 100 + kc u.2.1) (n := 60000 + ks u.2.1) (by show _ ≤ 100 + kc u.2.1; first | omega | (dsimp only; omega) | omega) (by show _ ≤ 60000 + ks u.2.1; first | omega | (dsimp only; omega) | omega) ?_
  exact kk H locs ls u _ _ ⟨hB, hZ, hM, hAx, hAm, hS, ⟨rfl, rfl⟩, hl⟩

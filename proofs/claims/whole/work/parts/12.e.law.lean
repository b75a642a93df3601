set_option maxHeartbeats 4000000 in
set_option maxRecDepth 100000 in
theorem lw_c14 {p : Program} {l : Launch} {e : Env} {s : State} {m : MethodId} {below : List Frame} {meth : Method} {c : Code} {b L qx qm i cells slots : Nat} {xs : Nat → Int32} {env : Ev} {H : Heap} {locs : List Loc} {ls : Array Slot} {u : St} {Q : State → Prop} (C0 : lw_At p s m meth c b L xs) (hL : L ≤ 2560) (hi : 5 * i + 5 ≤ L) (hP : LI env s b qx qm i H locs ls u cells slots) (kk : ∀ H locs ls u cells slots, LI env s b qx qm i H locs ls u cells slots → W p l e room_1 s m #[Value.ref b] below meth c H locs cells slots Q (F0 m 845 ls [])) : W p l e room_1 s m #[Value.ref b] below meth c H locs cells slots Q (F0 m 632 ls []) := by
  obtain ⟨hx, hb, hr, hml, hown, hts0, hX, hbl, hlocks, hgv⟩ := C0
  obtain ⟨hB, hZ, hM, hAx, hAm, hS, ⟨rfl, rfl⟩, hl⟩ := hP
  have hts : ∀ ww ∈ TT, ww.before #[Value.ref b] s = true := fun ww hw => tb_start hts0 ww hw _
  have hF : CallFix p m c cL_law 4 s #[Value.ref b] TT RL := ⟨hx, hb, hml, hown, hts⟩
  have hrm0 := hS.1.room
  refine lv_aload_n hx hb dL_law_632 rfl (lv_at hl 1 rfl) ?_
  refine lv_aload_n hx hb dL_law_633 rfl (lv_at hl 0 rfl) ?_
  refine lv_iload_n hx hb dL_law_634 rfl (lv_at hl 3 rfl) ?_
  refine lv_iconst (v := nI 1) hx hb dL_law_635 (by decide) ?_
  refine w_iadd_n hx hb dL_law_636 ?_
  refine w_scr hx hb hX hbl hB hL (by omega) dL_law_637 ?_
  refine lv_aload_n hx hb dL_law_638 rfl (lv_at hl 0 rfl) ?_
  refine lv_iload_n hx hb dL_law_639 rfl (lv_at hl 3 rfl) ?_
  refine lv_iconst (v := nI 2) hx hb dL_law_640 (by decide) ?_
  refine w_iadd_n hx hb dL_law_641 ?_
  refine w_scr hx hb hX hbl hB hL (by omega) dL_law_642 ?_
  have hSS := hS.had (xs ((5 * i) + 1)) (xs ((5 * i) + 2))
  refine w_ci (r_V (As := [.int (xs ((5 * i) + 1)), .int (xs ((5 * i) + 2))]) (rest := []) hF hB (c_X4_had l env s.heap.size [] u (qx) (0) hAx (xs ((5 * i) + 1)) (xs ((5 * i) + 2)) hZ.1 hS.2.2.1) cv_X4_had tw_3_39 ⟨rfl, rfl, Nat.le_of_ble_eq_true rfl, Nat.le_of_ble_eq_true rfl⟩ (hB.recv hAx (cn_0 env u 0) rfl) rfl hl.1 rfl (lv_room (Nat.le_of_ble_eq_true rfl)) dL_law_643 ⟨(by show _ ≤ 600000; first | omega | (dsimp only; omega)), (by show _ ≤ 7302249; first | omega | (dsimp only; omega))⟩) hB (fun r ux H locs hq hB => ?_)
  obtain ⟨rfl, rfl⟩ := hq
  have e1 : u.2.1 = u.2.1 := rfl
  have e2 : u.2.2 = u.2.2 := rfl
  have hM1 := hM
  have hAx1 := hAx
  have hAm1 := hAm
  have hZ1 := hZ
  show W p l e _ s m _ below meth c H locs _ _ _ (F0 m _ ls [.int (chad u.2.1 (xs ((5 * i) + 1)) (xs ((5 * i) + 2)))])
  refine lv_aload_n hx hb dL_law_646 rfl (lv_at hl 2 rfl) ?_
  refine lv_aload_n hx hb dL_law_647 rfl (lv_at hl 0 rfl) ?_
  refine lv_iload_n hx hb dL_law_648 rfl (lv_at hl 3 rfl) ?_
  refine lv_iconst (v := nI 1) hx hb dL_law_649 (by decide) ?_
  refine w_iadd_n hx hb dL_law_650 ?_
  refine w_scr hx hb hX hbl hB hL (by omega) dL_law_651 ?_
  refine lv_aload_n hx hb dL_law_652 rfl (lv_at hl 0 rfl) ?_
  refine lv_iload_n hx hb dL_law_653 rfl (lv_at hl 3 rfl) ?_
  refine lv_iconst (v := nI 2) hx hb dL_law_654 (by decide) ?_
  refine w_iadd_n hx hb dL_law_655 ?_
  refine w_scr hx hb hX hbl hB hL (by omega) dL_law_656 ?_
  refine w_ci (r_V (As := [.int (xs ((5 * i) + 1)), .int (xs ((5 * i) + 2))]) (rest := [.int (chad u.2.1 (xs ((5 * i) + 1)) (xs ((5 * i) + 2)))]) hF hB (c_X5_had l env s.heap.size [] u (qm) (0) hAm1 (xs ((5 * i) + 1)) (xs ((5 * i) + 2)) hM1 (by rw [e2]; exact hS.2.2.2.2) (by rw [e2]; exact hS.2.2.2.1)) cv_X5_had tw_4_83 ⟨rfl, rfl, Nat.le_of_ble_eq_true rfl, Nat.le_of_ble_eq_true rfl⟩ (hB.recv hAm1 (cn_20 env u 0) rfl) rfl hl.1 rfl (lv_room (Nat.le_of_ble_eq_true rfl)) dL_law_657 ⟨(by show _ ≤ 600000; first | omega | (dsimp only; omega)), (by show _ ≤ 7302249; first | omega | (dsimp only; omega))⟩) hB (fun r ux H locs hq hB => ?_)
  obtain ⟨rfl, rfl⟩ := hq
  show W p l e _ s m _ below meth c H locs _ _ _ (F0 m _ ls [.int (mhad u.2.2 (xs ((5 * i) + 1)) (xs ((5 * i) + 2))), .int (chad u.2.1 (xs ((5 * i) + 1)) (xs ((5 * i) + 2)))])
  refine lv_icmp_eq (tgt := 845) hx hb dL_law_660 (by decide) (fun _ => ?_) (fun hne => absurd (hSS) hne)
  refine W.widen (k := 100 + kc u.2.1) (n := 60000 + ks u.2.1) (by show _ ≤ 100 + kc u.2.1; first | omega | (dsimp only; omega) | omega) (by show _ ≤ 60000 + ks u.2.1; first | omega | (dsimp only; omega) | omega) ?_
  exact kk H locs ls u _ _ ⟨hB, hZ, hM, hAx, hAm, hS, ⟨rfl, rfl⟩, hl⟩
set_option maxHeartbeats 4000000 in
set_option maxRecDepth 100000 in
theorem lw_c15 {p : Program} {l : Launch} {e : Env} {s : State} {m : MethodId} {below : List Frame} {meth : Method} {c : Code} {b L qx qm i cells slots : Nat} {xs : Nat → Int32} {env : Ev} {H : Heap} {locs : List Loc} {ls : Array Slot} {u : St} {Q : State → Prop} (C0 : lw_At p s m meth c b L xs) (hL : L ≤ 2560) (hi : 5 * i + 5 ≤ L) (hP : LI env s b qx qm i H locs ls u cells slots) (kk : ∀ H locs ls u cells slots, LI env s b qx qm i H locs ls u cells slots → W p l e room_1 s m #[Value.ref b] below meth c H locs cells slots Q (F0 m 845 ls [])) : W p l e room_1 s m #[Value.ref b] below meth c H locs cells slots Q (F0 m 665 ls []) := by
  obtain ⟨hx, hb, hr, hml, hown, hts0, hX, hbl, hlocks, hgv⟩ := C0
  obtain ⟨hB, hZ, hM, hAx, hAm, hS, ⟨rfl, rfl⟩, hl⟩ := hP
  have hts : ∀ ww ∈ TT, ww.before #[Value.ref b] s = true := fun ww hw => tb_start hts0 ww hw _
  have hF : CallFix p m c cL_law 4 s #[Value.ref b] TT RL := ⟨hx, hb, hml, hown, hts⟩
  have hrm0 := hS.1.room
  refine lv_aload_n hx hb dL_law_665 rfl (lv_at hl 1 rfl) ?_
  refine lv_aload_n hx hb dL_law_666 rfl (lv_at hl 0 rfl) ?_
  refine lv_iload_n hx hb dL_law_667 rfl (lv_at hl 3 rfl) ?_
  refine lv_iconst (v := nI 1) hx hb dL_law_668 (by decide) ?_
  refine w_iadd_n hx hb dL_law_669 ?_
  refine w_scr hx hb hX hbl hB hL (by omega) dL_law_670 ?_
  refine lv_aload_n hx hb dL_law_671 rfl (lv_at hl 0 rfl) ?_
  refine lv_iload_n hx hb dL_law_672 rfl (lv_at hl 3 rfl) ?_
  refine lv_iconst (v := nI 2) hx hb dL_law_673 (by decide) ?_
  refine w_iadd_n hx hb dL_law_674 ?_
  refine w_scr hx hb hX hbl hB hL (by omega) dL_law_675 ?_
  have hSS := hS.latest (xs ((5 * i) + 1)) (xs ((5 * i) + 2))
  refine w_cl (r_V (As := [.int (xs ((5 * i) + 1)), .int (xs ((5 * i) + 2))]) (rest := []) hF hB (c_X4_latest l env s.heap.size [] u (qx) (0) hAx (xs ((5 * i) + 1)) (xs ((5 * i) + 2)) hZ.1 hS.2.2.1) cv_X4_latest tw_3_43 ⟨rfl, rfl, Nat.le_of_ble_eq_true rfl, Nat.le_of_ble_eq_true rfl⟩ (hB.recv hAx (cn_0 env u 0) rfl) rfl hl.1 rfl (lv_room (Nat.le_of_ble_eq_true rfl)) dL_law_676 ⟨(by show _ ≤ 600000; first | omega | (dsimp only; omega)), (by show _ ≤ 7302249; first | omega | (dsimp only; omega))⟩) hB (fun r ux H locs hq hB => ?_)
  obtain ⟨rfl, rfl⟩ := hq
  have e1 : u.2.1 = u.2.1 := rfl
  have e2 : u.2.2 = u.2.2 := rfl
  have hM1 := hM
  have hAx1 := hAx
  have hAm1 := hAm
  have hZ1 := hZ
  show W p l e _ s m _ below meth c H locs _ _ _ (F0 m _ ls [.long (clatest u.2.1 (xs ((5 * i) + 1)) (xs ((5 * i) + 2)))])
  refine lv_aload_n hx hb dL_law_679 rfl (lv_at hl 2 rfl) ?_
  refine lv_aload_n hx hb dL_law_680 rfl (lv_at hl 0 rfl) ?_
  refine lv_iload_n hx hb dL_law_681 rfl (lv_at hl 3 rfl) ?_
  refine lv_iconst (v := nI 1) hx hb dL_law_682 (by decide) ?_
  refine w_iadd_n hx hb dL_law_683 ?_
  refine w_scr hx hb hX hbl hB hL (by omega) dL_law_684 ?_
  refine lv_aload_n hx hb dL_law_685 rfl (lv_at hl 0 rfl) ?_
  refine lv_iload_n hx hb dL_law_686 rfl (lv_at hl 3 rfl) ?_
  refine lv_iconst (v := nI 2) hx hb dL_law_687 (by decide) ?_
  refine w_iadd_n hx hb dL_law_688 ?_
  refine w_scr hx hb hX hbl hB hL (by omega) dL_law_689 ?_
  refine w_cl (r_V (As := [.int (xs ((5 * i) + 1)), .int (xs ((5 * i) + 2))]) (rest := [.long (clatest u.2.1 (xs ((5 * i) + 1)) (xs ((5 * i) + 2)))]) hF hB (c_X5_latest l env s.heap.size [] u (qm) (0) hAm1 (xs ((5 * i) + 1)) (xs ((5 * i) + 2)) hM1 (by rw [e2]; exact hS.2.2.2.2) (by rw [e2]; exact hS.2.2.2.1)) cv_X5_latest tw_3_222 ⟨rfl, rfl, Nat.le_of_ble_eq_true rfl, Nat.le_of_ble_eq_true rfl⟩ (hB.recv hAm1 (cn_20 env u 0) rfl) rfl hl.1 rfl (lv_room (Nat.le_of_ble_eq_true rfl)) dL_law_690 ⟨(by show _ ≤ 600000; first | omega | (dsimp only; omega)), (by show _ ≤ 7302249; first | omega | (dsimp only; omega))⟩) hB (fun r ux H locs hq hB => ?_)
  obtain ⟨rfl, rfl⟩ := hq
  show W p l e _ s m _ below meth c H locs _ _ _ (F0 m _ ls [.long (mlatest u.2.2 (xs ((5 * i) + 1)) (xs ((5 * i) + 2))), .long (clatest u.2.1 (xs ((5 * i) + 1)) (xs ((5 * i) + 2)))])
  refine W.lcmp hx hb dL_law_693 ?_
  refine lv_if_eq (tgt := 845) hx hb dL_law_694 (by decide) (fun _ => ?_) (fun hne => absurd (lgc_eq hSS) hne)
  refine W.widen (k := 100 + kc u.2.1) (n := 60000 + ks u.2.1) (by show _ ≤ 100 + kc u.2.1; first | omega | (dsimp only; omega) | omega) (by show _ ≤ 60000 + ks u.2.1; first | omega | (dsimp only; omega) | omega) ?_
  exact kk H locs ls u _ _ ⟨hB, hZ, hM, hAx, hAm, hS, ⟨rfl, rfl⟩, hl⟩
set_option maxHeartbeats 4000000 in
set_option maxRecDepth 100000 in
theorem lw_c16 {p : Program} {l : Launch} {e : Env} {s : State} {m : MethodId} {below : List Frame} {meth : Method} {c : Code} {b L qx qm i cells slots : Nat} {xs : Nat → Int32} {env : Ev} {H : Heap} {locs : List Loc} {ls : Array Slot} {u : St} {Q : State → Prop} (C0 : lw_At p s m meth c b L xs) (hL : L ≤ 2560) (hi : 5 * i + 5 ≤ L) (hP : LI env s b qx qm i H locs ls u cells slots) (kk : ∀ H locs ls u cells slots, LI env s b qx qm i H locs ls u cells slots → W p l e room_1 s m #[Value.ref b] below meth c H locs cells slots Q (F0 m 845 ls [])) : W p l e room_1 s m #[Value.ref b] below meth c H locs cells slots Q (F0 m 699 ls []) := by
  obtain ⟨hx, hb, hr, hml, hown, hts0, hX, hbl, hlocks, hgv⟩ := C0
  obtain ⟨hB, hZ, hM, hAx, hAm, hS, ⟨rfl, rfl⟩, hl⟩ := hP
  have hts : ∀ ww ∈ TT, ww.before #[Value.ref b] s = true := fun ww hw => tb_start hts0 ww hw _
  have hF : CallFix p m c cL_law 4 s #[Value.ref b] TT RL := ⟨hx, hb, hml, hown, hts⟩
  have hrm0 := hS.1.room
  refine lv_aload_n hx hb dL_law_699 rfl (lv_at hl 1 rfl) ?_
  refine lv_aload_n hx hb dL_law_700 rfl (lv_at hl 0 rfl) ?_
  refine lv_iload_n hx hb dL_law_701 rfl (lv_at hl 3 rfl) ?_
  refine lv_iconst (v := nI 1) hx hb dL_law_702 (by decide) ?_
  refine w_iadd_n hx hb dL_law_703 ?_
  refine w_scr hx hb hX hbl hB hL (by omega) dL_law_704 ?_
  refine lv_aload_n hx hb dL_law_705 rfl (lv_at hl 0 rfl) ?_
  refine lv_iload_n hx hb dL_law_706 rfl (lv_at hl 3 rfl) ?_
  refine lv_iconst (v := nI 2) hx hb dL_law_707 (by decide) ?_
  refine w_iadd_n hx hb dL_law_708 ?_
  refine w_scr hx hb hX hbl hB hL (by omega) dL_law_709 ?_
  refine lv_aload_n hx hb dL_law_710 rfl (lv_at hl 0 rfl) ?_
  refine lv_iload_n hx hb dL_law_711 rfl (lv_at hl 3 rfl) ?_
  refine lv_iconst (v := nI 3) hx hb dL_law_712 (by decide) ?_
  refine w_iadd_n hx hb dL_law_713 ?_
  refine w_scr hx hb hX hbl hB hL (by omega) dL_law_714 ?_
  have hSS := hS.sum (xs ((5 * i) + 1)) (xs ((5 * i) + 2)) (xs ((5 * i) + 3))
  refine w_cl (r_V (As := [.int (xs ((5 * i) + 1)), .int (xs ((5 * i) + 2)), .int (xs ((5 * i) + 3))]) (rest := []) hF hB (c_X4_sum l env s.heap.size [] u (qx) (0) hAx (xs ((5 * i) + 1)) (xs ((5 * i) + 2)) (xs ((5 * i) + 3)) hZ.1 hS.2.2.1) cv_X4_sum tw_3_47 ⟨rfl, rfl, Nat.le_of_ble_eq_true rfl, Nat.le_of_ble_eq_true rfl⟩ (hB.recv hAx (cn_0 env u 0) rfl) rfl hl.1 rfl (lv_room (Nat.le_of_ble_eq_true rfl)) dL_law_715 ⟨(by show _ ≤ 600000; first | omega | (dsimp only; omega)), (by show _ ≤ 7302249; first | omega | (dsimp only; omega))⟩) hB (fun r ux H locs hq hB => ?_)
  obtain ⟨rfl, rfl⟩ := hq
  have e1 : u.2.1 = u.2.1 := rfl
  have e2 : u.2.2 = u.2.2 := rfl
  have hM1 := hM
  have hAx1 := hAx
  have hAm1 := hAm
  have hZ1 := hZ
  show W p l e _ s m _ below meth c H locs _ _ _ (F0 m _ ls [.long (csum u.2.1 (xs ((5 * i) + 1)) (xs ((5 * i) + 2)) (xs ((5 * i) + 3)))])
  refine lv_aload_n hx hb dL_law_718 rfl (lv_at hl 2 rfl) ?_
  refine lv_aload_n hx hb dL_law_719 rfl (lv_at hl 0 rfl) ?_
  refine lv_iload_n hx hb dL_law_720 rfl (lv_at hl 3 rfl) ?_
  refine lv_iconst (v := nI 1) hx hb dL_law_721 (by decide) ?_
  refine w_iadd_n hx hb dL_law_722 ?_
  refine w_scr hx hb hX hbl hB hL (by omega) dL_law_723 ?_
  refine lv_aload_n hx hb dL_law_724 rfl (lv_at hl 0 rfl) ?_
  refine lv_iload_n hx hb dL_law_725 rfl (lv_at hl 3 rfl) ?_
  refine lv_iconst (v := nI 2) hx hb dL_law_726 (by decide) ?_
  refine w_iadd_n hx hb dL_law_727 ?_
  refine w_scr hx hb hX hbl hB hL (by omega) dL_law_728 ?_
  refine lv_aload_n hx hb dL_law_729 rfl (lv_at hl 0 rfl) ?_
  refine lv_iload_n hx hb dL_law_730 rfl (lv_at hl 3 rfl) ?_
  refine lv_iconst (v := nI 3) hx hb dL_law_731 (by decide) ?_
  refine w_iadd_n hx hb dL_law_732 ?_
  refine w_scr hx hb hX hbl hB hL (by omega) dL_law_733 ?_
  refine w_cl (r_V (As := [.int (xs ((5 * i) + 1)), .int (xs ((5 * i) + 2)), .int (xs ((5 * i) + 3))]) (rest := [.long (csum u.2.1 (xs ((5 * i) + 1)) (xs ((5 * i) + 2)) (xs ((5 * i) + 3)))]) hF hB (c_X5_sum l env s.heap.size [] u (qm) (0) hAm1 (xs ((5 * i) + 1)) (xs ((5 * i) + 2)) (xs ((5 * i) + 3)) hM1 (by rw [e2]; exact hS.2.2.2.2) (by rw [e2]; exact hS.2.2.2.1)) cv_X5_sum tw_3_226 ⟨rfl, rfl, Nat.le_of_ble_eq_true rfl, Nat.le_of_ble_eq_true rfl⟩ (hB.recv hAm1 (cn_20 env u 0) rfl) rfl hl.1 rfl (lv_room (Nat.le_of_ble_eq_true rfl)) dL_law_734 ⟨(by show _ ≤ 600000; first | omega | (dsimp only; omega)), (by show _ ≤ 7302249; first | omega | (dsimp only; omega))⟩) hB (fun r ux H locs hq hB => ?_)
  obtain ⟨rfl, rfl⟩ := hq
  show W p l e _ s m _ below meth c H locs _ _ _ (F0 m _ ls [.long (msum u.2.2 (xs ((5 * i) + 1)) (xs ((5 * i) + 2)) (xs ((5 * i) + 3))), .long (csum u.2.1 (xs ((5 * i) + 1)) (xs ((5 * i) + 2)) (xs ((5 * i) + 3)))])
  refine W.lcmp hx hb dL_law_737 ?_
  refine lv_if_eq (tgt := 845) hx hb dL_law_738 (by decide) (fun _ => ?_) (fun hne => absurd (lgc_eq hSS) hne)
  refine W.widen (k := 100 + kc u.2.1) (n := 60000 + ks u.2.1) (by show _ ≤ 100 + kc u.2.1; first | omega | (dsimp only; omega) | omega) (by show _ ≤ 60000 + ks u.2.1; first | omega | (dsimp only; omega) | omega) ?_
  exact kk H locs ls u _ _ ⟨hB, hZ, hM, hAx, hAm, hS, ⟨rfl, rfl⟩, hl⟩
set_option maxHeartbeats 4000000 in
set_option maxRecDepth 100000 in
theorem lw_c17 {p : Program} {l : Launch} {e : Env} {s : State} {m : MethodId} {below : List Frame} {meth : Method} {c : Code} {b L qx qm i cells slots : Nat} {xs : Nat → Int32} {env : Ev} {H : Heap} {locs : List Loc} {ls : Array Slot} {u : St} {Q : State → Prop} (C0 : lw_At p s m meth c b L xs) (hL : L ≤ 2560) (hi : 5 * i + 5 ≤ L) (hP : LI env s b qx qm i H locs ls u cells slots) (kk : ∀ H locs ls u cells slots, LI env s b qx qm i H locs ls u cells slots → W p l e room_1 s m #[Value.ref b] below meth c H locs cells slots Q (F0 m 845 ls [])) : W p l e room_1 s m #[Value.ref b] below meth c H locs cells slots Q (F0 m 743 ls []) := by
  obtain ⟨hx, hb, hr, hml, hown, hts0, hX, hbl, hlocks, hgv⟩ := C0
  obtain ⟨hB, hZ, hM, hAx, hAm, hS, ⟨rfl, rfl⟩, hl⟩ := hP
  have hts : ∀ ww ∈ TT, ww.before #[Value.ref b] s = true := fun ww hw => tb_start hts0 ww hw _
  have hF : CallFix p m c cL_law 4 s #[Value.ref b] TT RL := ⟨hx, hb, hml, hown, hts⟩
  have hrm0 := hS.1.room
  refine lv_aload_n hx hb dL_law_743 rfl (lv_at hl 1 rfl) ?_
  refine lv_aload_n hx hb dL_law_744 rfl (lv_at hl 0 rfl) ?_
  refine lv_iload_n hx hb dL_law_745 rfl (lv_at hl 3 rfl) ?_
  refine lv_iconst (v := nI 1) hx hb dL_law_746 (by decide) ?_
  refine w_iadd_n hx hb dL_law_747 ?_
  refine w_scr hx hb hX hbl hB hL (by omega) dL_law_748 ?_
  refine lv_aload_n hx hb dL_law_749 rfl (lv_at hl 0 rfl) ?_
  refine lv_iload_n hx hb dL_law_750 rfl (lv_at hl 3 rfl) ?_
  refine lv_iconst (v := nI 2) hx hb dL_law_751 (by decide) ?_
  refine w_iadd_n hx hb dL_law_752 ?_
  refine w_scr hx hb hX hbl hB hL (by omega) dL_law_753 ?_
  have hSS := hS.locked (xs ((5 * i) + 1)) (xs ((5 * i) + 2))
  refine w_ci (r_V (As := [.int (xs ((5 * i) + 1)), .int (xs ((5 * i) + 2))]) (rest := []) hF hB (c_X4_locked l env s.heap.size [] u (qx) (0) hAx (xs ((5 * i) + 1)) (xs ((5 * i) + 2)) hZ.1 hS.2.2.1) cv_X4_locked tw_3_51 ⟨rfl, rfl, Nat.le_of_ble_eq_true rfl, Nat.le_of_ble_eq_true rfl⟩ (hB.recv hAx (cn_0 env u 0) rfl) rfl hl.1 rfl (lv_room (Nat.le_of_ble_eq_true rfl)) dL_law_754 ⟨(by show _ ≤ 600000; first | omega | (dsimp only; omega)), (by show _ ≤ 7302249; first | omega | (dsimp only; omega))⟩) hB (fun r ux H locs hq hB => ?_)
  obtain ⟨rfl, rfl⟩ := hq
  have e1 : u.2.1 = u.2.1 := rfl
  have e2 : u.2.2 = u.2.2 := rfl
  have hM1 := hM
  have hAx1 := hAx
  have hAm1 := hAm
  have hZ1 := hZ
  show W p l e _ s m _ below meth c H locs _ _ _ (F0 m _ ls [.int (clocked u.2.1 (xs ((5 * i) + 1)) (xs ((5 * i) + 2)))])
  refine lv_aload_n hx hb dL_law_757 rfl (lv_at hl 2 rfl) ?_
  refine lv_aload_n hx hb dL_law_758 rfl (lv_at hl 0 rfl) ?_
  refine lv_iload_n hx hb dL_law_759 rfl (lv_at hl 3 rfl) ?_
  refine lv_iconst (v := nI 1) hx hb dL_law_760 (by decide) ?_
  refine w_iadd_n hx hb dL_law_761 ?_
  refine w_scr hx hb hX hbl hB hL (by omega) dL_law_762 ?_
  refine lv_aload_n hx hb dL_law_763 rfl (lv_at hl 0 rfl) ?_
  refine lv_iload_n hx hb dL_law_764 rfl (lv_at hl 3 rfl) ?_
  refine lv_iconst (v := nI 2) hx hb dL_law_765 (by decide) ?_
  refine w_iadd_n hx hb dL_law_766 ?_
  refine w_scr hx hb hX hbl hB hL (by omega) dL_law_767 ?_
  refine w_ci (r_V (As := [.int (xs ((5 * i) + 1)), .int (xs ((5 * i) + 2))]) (rest := [.int (clocked u.2.1 (xs ((5 * i) + 1)) (xs ((5 * i) + 2)))]) hF hB (c_X5_locked l env s.heap.size [] u (qm) (0) hAm1 (xs ((5 * i) + 1)) (xs ((5 * i) + 2)) hM1 (by rw [e2]; exact hS.2.2.2.2) (by rw [e2]; exact hS.2.2.2.1)) cv_X5_locked tw_4_87 ⟨rfl, rfl, Nat.le_of_ble_eq_true rfl, Nat.le_of_ble_eq_true rfl⟩ (hB.recv hAm1 (cn_20 env u 0) rfl) rfl hl.1 rfl (lv_room (Nat.le_of_ble_eq_true rfl)) dL_law_768 ⟨(by show _ ≤ 600000; first | omega | (dsimp only; omega)), (by show _ ≤ 7302249; first | omega | (dsimp only; omega))⟩) hB (fun r ux H locs hq hB => ?_)
  obtain ⟨rfl, rfl⟩ := hq
  show W p l e _ s m _ below meth c H locs _ _ _ (F0 m _ ls [.int (mlocked u.2.2 (xs ((5 * i) + 1)) (xs ((5 * i) + 2))), .int (clocked u.2.1 (xs ((5 * i) + 1)) (xs ((5 * i) + 2)))])
  refine lv_icmp_eq (tgt := 845) hx hb dL_law_771 (by decide) (fun _ => ?_) (fun hne => absurd (hSS) hne)
  refine W.widen (k := 100 + kc u.2.1) (n := 60000 + ks u.2.1) (by show _ ≤ 100 + kc u.2.1; first | omega | (dsimp only; omega) | omega) (by show _ ≤ 60000 + ks u.2.1; first | omega | (dsimp only; omega) | omega) ?_
  exact kk H locs ls u _ _ ⟨hB, hZ, hM, hAx, hAm, hS, ⟨rfl, rfl⟩, hl⟩
set_option maxHeartbeats 4000000 in
set_option maxRecDepth 100000 in
theorem lw_c18 {p : Program} {l : Launch} {e : Env} {s : State} {m : MethodId} {below : List Frame} {meth : Method} {c : Code} {b L qx qm i cells slots : Nat} {xs : Nat → Int32} {env : Ev} {H : Heap} {locs : List Loc} {ls : Array Slot} {u : St} {Q : State → Prop} (C0 : lw_At p s m meth c b L xs) (hL : L ≤ 2560) (hi : 5 * i + 5 ≤ L) (hP : LI env s b qx qm i H locs ls u cells slots) (kk : ∀ H locs ls u cells slots, LI env s b qx qm i H locs ls u cells slots → W p l e room_1 s m #[Value.ref b] below meth c H locs cells slots Q (F0 m 845 ls [])) : W p l e room_1 s m #[Value.ref b] below meth c H locs cells slots Q (F0 m 776 ls []) := by
  obtain ⟨hx, hb, hr, hml, hown, hts0, hX, hbl, hlocks, hgv⟩ := C0
  obtain ⟨hB, hZ, hM, hAx, hAm, hS, ⟨rfl, rfl⟩, hl⟩ := hP
  have hts : ∀ ww ∈ TT, ww.before #[Value.ref b] s = true := fun ww hw => tb_start hts0 ww hw _
  have hF : CallFix p m c cL_law 4 s #[Value.ref b] TT RL := ⟨hx, hb, hml, hown, hts⟩
  have hrm0 := hS.1.room
  refine lv_aload_n hx hb dL_law_776 rfl (lv_at hl 1 rfl) ?_
  refine lv_aload_n hx hb dL_law_777 rfl (lv_at hl 0 rfl) ?_
  refine lv_iload_n hx hb dL_law_778 rfl (lv_at hl 3 rfl) ?_
  refine lv_iconst (v := nI 1) hx hb dL_law_779 (by decide) ?_
  refine w_iadd_n hx hb dL_law_780 ?_
  refine w_scr hx hb hX hbl hB hL (by omega) dL_law_781 ?_
  refine lv_aload_n hx hb dL_law_782 rfl (lv_at hl 0 rfl) ?_
  refine lv_iload_n hx hb dL_law_783 rfl (lv_at hl 3 rfl) ?_
  refine lv_iconst (v := nI 2) hx hb dL_law_784 (by decide) ?_
  refine w_iadd_n hx hb dL_law_785 ?_
  refine w_scr hx hb hX hbl hB hL (by omega) dL_law_786 ?_
  have hSS := hS.sees (xs ((5 * i) + 1)) (xs ((5 * i) + 2))
  refine w_ci (r_V (As := [.int (xs ((5 * i) + 1)), .int (xs ((5 * i) + 2))]) (rest := []) hF hB (c_X4_sees l env s.heap.size [] u (qx) (0) hAx (xs ((5 * i) + 1)) (xs ((5 * i) + 2)) hZ.1 hS.2.2.1) cv_X4_sees tw_3_55 ⟨rfl, rfl, Nat.le_of_ble_eq_true rfl, Nat.le_of_ble_eq_true rfl⟩ (hB.recv hAx (cn_0 env u 0) rfl) rfl hl.1 rfl (lv_room (Nat.le_of_ble_eq_true rfl)) dL_law_787 ⟨(by show _ ≤ 600000; first | omega | (dsimp only; omega)), (by show _ ≤ 7302249; first | omega | (dsimp only; omega))⟩) hB (fun r ux H locs hq hB => ?_)
  obtain ⟨rfl, rfl⟩ := hq
  have e1 : u.2.1 = u.2.1 := rfl
  have e2 : u.2.2 = u.2.2 := rfl
  have hM1 := hM
  have hAx1 := hAx
  have hAm1 := hAm
  have hZ1 := hZ
  show W p l e _ s m _ below meth c H locs _ _ _ (F0 m _ ls [.int (csees u.2.1 (xs ((5 * i) + 1)) (xs ((5 * i) + 2)))])
  refine lv_aload_n hx hb dL_law_790 rfl (lv_at hl 2 rfl) ?_
  refine lv_aload_n hx hb dL_law_791 rfl (lv_at hl 0 rfl) ?_
  refine lv_iload_n hx hb dL_law_792 rfl (lv_at hl 3 rfl) ?_
  refine lv_iconst (v := nI 1) hx hb dL_law_793 (by decide) ?_
  refine w_iadd_n hx hb dL_law_794 ?_
  refine w_scr hx hb hX hbl hB hL (by omega) dL_law_795 ?_
  refine lv_aload_n hx hb dL_law_796 rfl (lv_at hl 0 rfl) ?_
  refine lv_iload_n hx hb dL_law_797 rfl (lv_at hl 3 rfl) ?_
  refine lv_iconst (v := nI 2) hx hb dL_law_798 (by decide) ?_
  refine w_iadd_n hx hb dL_law_799 ?_
  refine w_scr hx hb hX hbl hB hL (by omega) dL_law_800 ?_
  refine w_ci (r_V (As := [.int (xs ((5 * i) + 1)), .int (xs ((5 * i) + 2))]) (rest := [.int (csees u.2.1 (xs ((5 * i) + 1)) (xs ((5 * i) + 2)))]) hF hB (c_X5_sees l env s.heap.size [] u (qm) (0) hAm1 (xs ((5 * i) + 1)) (xs ((5 * i) + 2)) hM1 (by rw [e2]; exact hS.2.2.2.2) (by rw [e2]; exact hS.2.2.2.1)) cv_X5_sees tw_4_91 ⟨rfl, rfl, Nat.le_of_ble_eq_true rfl, Nat.le_of_ble_eq_true rfl⟩ (hB.recv hAm1 (cn_20 env u 0) rfl) rfl hl.1 rfl (lv_room (Nat.le_of_ble_eq_true rfl)) dL_law_801 ⟨(by show _ ≤ 600000; first | omega | (dsimp only; omega)), (by show _ ≤ 7302249; first | omega | (dsimp only; omega))⟩) hB (fun r ux H locs hq hB => ?_)
  obtain ⟨rfl, rfl⟩ := hq
  show W p l e _ s m _ below meth c H locs _ _ _ (F0 m _ ls [.int (msees u.2.2 (xs ((5 * i) + 1)) (xs ((5 * i) + 2))), .int (csees u.2.1 (xs ((5 * i) + 1)) (xs ((5 * i) + 2)))])
  refine lv_icmp_eq (tgt := 845) hx hb dL_law_804 (by decide) (fun _ => ?_) (fun hne => absurd (hSS) hne)
  refine W.widen (k := 100 + kc u.2.1) (n := 60000 + ks u.2.1) (by show _ ≤ 100 + kc u.2.1; first | omega | (dsimp only; omega) | omega) (by show _ ≤ 60000 + ks u.2.1; first | omega | (dsimp only; omega) | omega) ?_
  exact kk H locs ls u _ _ ⟨hB, hZ, hM, hAx, hAm, hS, ⟨rfl, rfl⟩, hl⟩
set_option maxHeartbeats 4000000 in
set_option maxRecDepth 100000 in
theorem lw_c19 {p : Program} {l : Launch} {e : Env} {s : State} {m : MethodId} {below : List Frame} {meth : Method} {c : Code} {b L qx qm i cells slots : Nat} {xs : Nat → Int32} {env : Ev} {H : Heap} {locs : List Loc} {ls : Array Slot} {u : St} {Q : State → Prop} (C0 : lw_At p s m meth c b L xs) (hL : L ≤ 2560) (hi : 5 * i + 5 ≤ L) (hP : LI env s b qx qm i H locs ls u cells slots) (kk : ∀ H locs ls u cells slots, LI env s b qx qm i H locs ls u cells slots → W p l e room_1 s m #[Value.ref b] below meth c H locs cells slots Q (F0 m 845 ls [])) : W p l e room_1 s m #[Value.ref b] below meth c H locs cells slots Q (F0 m 809 ls []) := by
  obtain ⟨hx, hb, hr, hml, hown, hts0, hX, hbl, hlocks, hgv⟩ := C0
  obtain ⟨hB, hZ, hM, hAx, hAm, hS, ⟨rfl, rfl⟩, hl⟩ := hP
  have hts : ∀ ww ∈ TT, ww.before #[Value.ref b] s = true := fun ww hw => tb_start hts0 ww hw _
  have hF : CallFix p m c cL_law 4 s #[Value.ref b] TT RL := ⟨hx, hb, hml, hown, hts⟩
  have hrm0 := hS.1.room
  refine lv_aload_n hx hb dL_law_809 rfl (lv_at hl 1 rfl) ?_
  have hSS := congrArg b2i hS.calm
  refine w_ci (r_V (As := []) (rest := []) hF hB (c_X4_calm l env s.heap.size [] u (qx) (0) hAx  hZ.1 hS.2.2.1) cv_X4_calm tw_3_60 ⟨rfl, rfl, Nat.le_of_ble_eq_true rfl, Nat.le_of_ble_eq_true rfl⟩ (hB.recv hAx (cn_0 env u 0) rfl) rfl hl.1 rfl (lv_room (Nat.le_of_ble_eq_true rfl)) dL_law_810 ⟨(by show _ ≤ 600000; first | omega | (dsimp only; omega)), (by show _ ≤ 7302249; first | omega | (dsimp only; omega))⟩) hB (fun r ux H locs hq hB => ?_)
  obtain ⟨rfl, rfl⟩ := hq
  have e1 : u.2.1 = u.2.1 := rfl
  have e2 : u.2.2 = u.2.2 := rfl
  have hM1 := hM
  have hAx1 := hAx
  have hAm1 := hAm
  have hZ1 := hZ
  show W p l e _ s m _ below meth c H locs _ _ _ (F0 m _ ls [.int (b2i (cCalm u.2.1))])
  refine lv_aload_n hx hb dL_law_813 rfl (lv_at hl 2 rfl) ?_
  refine w_ci (r_V (As := []) (rest := [.int (b2i (cCalm u.2.1))]) hF hB (c_X5_calm l env s.heap.size [] u (qm) (0) hAm1  hM1 (by rw [e2]; exact hS.2.2.2.2) (by rw [e2]; exact hS.2.2.2.1)) cv_X5_calm tw_4_95 ⟨rfl, rfl, Nat.le_of_ble_eq_true rfl, Nat.le_of_ble_eq_true rfl⟩ (hB.recv hAm1 (cn_20 env u 0) rfl) rfl hl.1 rfl (lv_room (Nat.le_of_ble_eq_true rfl)) dL_law_814 ⟨(by show _ ≤ 600000; first | omega | (dsimp only; omega)), (by show _ ≤ 7302249; first | omega | (dsimp only; omega))⟩) hB (fun r ux H locs hq hB => ?_)
  obtain ⟨rfl, rfl⟩ := hq
  show W p l e _ s m _ below meth c H locs _ _ _ (F0 m _ ls [.int (b2i (mCalm u.2.2)), .int (b2i (cCalm u.2.1))])
  refine lv_icmp_eq (tgt := 845) hx hb dL_law_817 (by decide) (fun _ => ?_) (fun hne => absurd (hSS) hne)
  refine W.widen (k := 100 + kc u.2.1) (n := 60000 + ks u.2.1) (by show _ ≤ 100 + kc u.2.1; first | omega | (dsimp only; omega) | omega) (by show _ ≤ 60000 + ks u.2.1; first | omega | (dsimp only; omega) | omega) ?_
  exact kk H locs ls u _ _ ⟨hB, hZ, hM, hAx, hAm, hS, ⟨rfl, rfl⟩, hl⟩
set_option maxHeartbeats 4000000 in
set_option maxRecDepth 100000 in
theorem lw_c20 {p : Program} {l : Launch} {e : Env} {s : State} {m : MethodId} {below : List Frame} {meth : Method} {c : Code} {b L qx qm i cells slots : Nat} {xs : Nat → Int32} {env : Ev} {H : Heap} {locs : List Loc} {ls : Array Slot} {u : St} {Q : State → Prop} (C0 : lw_At p s m meth c b L xs) (hL : L ≤ 2560) (hi : 5 * i + 5 ≤ L) (hP : LI env s b qx qm i H locs ls u cells slots) (kk : ∀ H locs ls u cells slots, LI env s b qx qm i H locs ls u cells slots → W p l e room_1 s m #[Value.ref b] below meth c H locs cells slots Q (F0 m 845 ls [])) : W p l e room_1 s m #[Value.ref b] below meth c H locs cells slots Q (F0 m 822 ls []) := by
  obtain ⟨hx, hb, hr, hml, hown, hts0, hX, hbl, hlocks, hgv⟩ := C0
  obtain ⟨hB, hZ, hM, hAx, hAm, hS, ⟨rfl, rfl⟩, hl⟩ := hP
  have hts : ∀ ww ∈ TT, ww.before #[Value.ref b] s = true := fun ww hw => tb_start hts0 ww hw _
  have hF : CallFix p m c cL_law 4 s #[Value.ref b] TT RL := ⟨hx, hb, hml, hown, hts⟩
  have hrm0 := hS.1.room
  refine lv_aload_n hx hb dL_law_822 rfl (lv_at hl 1 rfl) ?_
  refine lv_aload_n hx hb dL_law_823 rfl (lv_at hl 0 rfl) ?_
  refine lv_iload_n hx hb dL_law_824 rfl (lv_at hl 3 rfl) ?_
  refine lv_iconst (v := nI 1) hx hb dL_law_825 (by decide) ?_
  refine w_iadd_n hx hb dL_law_826 ?_
  refine w_scr hx hb hX hbl hB hL (by omega) dL_law_827 ?_
  have hSS := hS.count (xs ((5 * i) + 1))
  refine w_ci (r_V (As := [.int (xs ((5 * i) + 1))]) (rest := []) hF hB (c_X4_count l env s.heap.size [] u (qx) (0) hAx (xs ((5 * i) + 1)) hZ.1 hS.2.2.1) cv_X4_count tw_3_64 ⟨rfl, rfl, Nat.le_of_ble_eq_true rfl, Nat.le_of_ble_eq_true rfl⟩ (hB.recv hAx (cn_0 env u 0) rfl) rfl hl.1 rfl (lv_room (Nat.le_of_ble_eq_true rfl)) dL_law_828 ⟨(by show _ ≤ 600000; first | omega | (dsimp only; omega)), (by show _ ≤ 7302249; first | omega | (dsimp only; omega))⟩) hB (fun r ux H locs hq hB => ?_)
  obtain ⟨rfl, rfl⟩ := hq
  have e1 : u.2.1 = u.2.1 := rfl
  have e2 : u.2.2 = u.2.2 := rfl
  have hM1 := hM
  have hAx1 := hAx
  have hAm1 := hAm
  have hZ1 := hZ
  show W p l e _ s m _ below meth c H locs _ _ _ (F0 m _ ls [.int (ccount u.2.1 (xs ((5 * i) + 1)))])
  refine lv_aload_n hx hb dL_law_831 rfl (lv_at hl 2 rfl) ?_
  refine lv_aload_n hx hb dL_law_832 rfl (lv_at hl 0 rfl) ?_
  refine lv_iload_n hx hb dL_law_833 rfl (lv_at hl 3 rfl) ?_
  refine lv_iconst (v := nI 1) hx hb dL_law_834 (by decide) ?_
  refine w_iadd_n hx hb dL_law_835 ?_
  refine w_scr hx hb hX hbl hB hL (by omega) dL_law_836 ?_
  refine w_ci (r_V (As := [.int (xs ((5 * i) + 1))]) (rest := [.int (ccount u.2.1 (xs ((5 * i) + 1)))]) hF hB (c_X5_count l env s.heap.size [] u (qm) (0) hAm1 (xs ((5 * i) + 1)) hM1 (by rw [e2]; exact hS.2.2.2.2) (by rw [e2]; exact hS.2.2.2.1)) cv_X5_count tw_4_99 ⟨rfl, rfl, Nat.le_of_ble_eq_true rfl, Nat.le_of_ble_eq_true rfl⟩ (hB.recv hAm1 (cn_20 env u 0) rfl) rfl hl.1 rfl (lv_room (Nat.le_of_ble_eq_true rfl)) dL_law_837 ⟨(by show _ ≤ 600000; first | omega | (dsimp only; omega)), (by show _ ≤ 7302249; first | omega | (dsimp only; omega))⟩) hB (fun r ux H locs hq hB => ?_)
  obtain ⟨rfl, rfl⟩ := hq
  show W p l e _ s m _ below meth c H locs _ _ _ (F0 m _ ls [.int (mcount u.2.2 (xs ((5 * i) + 1))), .int (ccount u.2.1 (xs ((5 * i) + 1)))])
  refine lv_icmp_eq (tgt := 845) hx hb dL_law_840 (by decide) (fun _ => ?_) (fun hne => absurd (hSS) hne)
  refine W.widen (k := 100 + kc u.2.1) (n := 60000 + ks u.2.1) (by show _ ≤ 100 + kc u.2.1; first | omega | (dsimp only; omega) | omega) (by show _ ≤ 60000 + ks u.2.1; first | omega | (dsimp only; omega) | omega) ?_
  exact kk H locs ls u _ _ ⟨hB, hZ, hM, hAx, hAm, hS, ⟨rfl, rfl⟩, hl⟩

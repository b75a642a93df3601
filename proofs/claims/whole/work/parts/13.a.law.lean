theorem cmp5 {i L : Nat} (hi : i ≤ 513) (hL : L ≤ 2560) : (nI L - nI 5 < nI (5 * i)) ↔ L < 5 * i + 5 := by
  have e := pk_sub_toInt (a := L) (b := 5) (by omega) (by omega)
  rw [Int32.lt_iff_toInt_lt, e, nI_toInt (by omega)]
  omega
set_option maxHeartbeats 4000000 in
set_option maxRecDepth 100000 in
theorem law_loop {p : Program} {e : Env} {s : State} {m : MethodId} {below : List Frame} {meth : Method} {c : Code} (l : Launch) {b L qx qm : Nat} {xs : Nat → Int32} {env : Ev} (hL : L ≤ 2560) (C0 : lw_At p s m meth c b L xs) {H : Heap} {locs : List Loc} {ls : Array Slot} {u : St} {cells slots : Nat} (hP : LI env s b qx qm 0 H locs ls u cells slots) : W p l e room_1 s m #[Value.ref b] below meth c H locs cells slots (lw_Z below #[Value.ref b] s) (F0 m 18 ls []) := by
  obtain ⟨hx, hb, hr, hml, hown, hts0, hX, hbl, hlocks, hgv⟩ := id C0
  refine wloopH (σ := Heap × List Loc × Array Slot × St × Nat × Nat) (G := fun z => W p l e room_1 s m #[Value.ref b] below meth c z.1 z.2.1 z.2.2.2.2.1 z.2.2.2.2.2 (lw_Z below #[Value.ref b] s) (F0 m 18 z.2.2.1 [])) (P := fun i z => LI env s b qx qm i z.1 z.2.1 z.2.2.1 z.2.2.2.1 z.2.2.2.2.1 z.2.2.2.2.2) (N := 513) ?_ 0 (H, locs, ls, u, cells, slots) (by decide) hP
  clear hP
  rintro i ⟨H, locs, ls, u, cells, slots⟩ hi hP ih
  replace hP : LI env s b qx qm i H locs ls u cells slots := hP
  show W p l e room_1 s m #[Value.ref b] below meth c H locs cells slots (lw_Z below #[Value.ref b] s) (F0 m 18 ls [])
  have hP0 := hP
  obtain ⟨hB, hZ, hM, hAx, hAm, hS, ⟨hc1, hc2⟩, hl⟩ := hP
  refine lv_iload_n hx hb dL_law_18 rfl (lv_at hl 3 rfl) ?_
  refine lv_aload_n hx hb dL_law_19 rfl (lv_at hl 0 rfl) ?_
  refine va_slen hx hb hX hbl (Nat.not_le.mpr hbl) hB.2.1 dL_law_20 ?_
  refine lv_iconst (v := nI 5) hx hb dL_law_21 (by decide) ?_
  refine lv_isub hx hb dL_law_22 ?_
  refine lv_icmp_gt (tgt := 851) hx hb dL_law_23 (by decide) (fun c1 => ?_) (fun c1 => ?_)
  · have hrm := hS.1.room
    refine lv_iconst (v := 1) hx hb dL_law_851 (by decide) ?_
    refine va_forget (fun q hq => hB.2.1.2.2 q hq) ?_
    refine W.widen (k := 600000) (n := 7302249) (by omega) (by omega) ?_
    exact lw_ret hx hb hr hlocks dL_law_852
  · have h5 : 5 * i + 5 ≤ L := Nat.not_lt.mp (fun z => c1 ((cmp5 hi hL).mpr z))
    refine lv_aload_n hx hb dL_law_26 rfl (lv_at hl 0 rfl) ?_
    refine lv_iload_n hx hb dL_law_27 rfl (lv_at hl 3 rfl) ?_
    refine w_scr hx hb hX hbl hB hL (by omega) dL_law_28 ?_
    refine lv_bipush (v := nI 31) hx hb dL_law_29 (by decide) ?_
    refine lv_iand hx hb dL_law_31 ?_
    have kk : ∀ H locs ls u cells slots, LI env s b qx qm i H locs ls u cells slots → W p l e room_1 s m #[Value.ref b] below meth c H locs cells slots (lw_Z below #[Value.ref b] s) (F0 m 845 ls []) := by
      intro H locs ls u cells slots hP
      obtain ⟨hB, hZ, hM, hAx, hAm, hS, hcs, hl⟩ := hP
      refine lv_iinc (v := nI (5 * i + 5)) (lv' := [(3, .int (nI (5 * i + 5))), (0, .ref b), (1, .ref qx), (2, .ref qm)]) hx hb dL_law_845 hl (k := 3) rfl (nI_add _ _) (by decide) rfl (fun ls hl => ?_)
      refine lv_goto (tgt := 18) hx hb dL_law_848 (by decide) ?_
      exact ih (H, locs, ls, u, cells, slots) (by omega) ⟨hB, hZ, hM, hAx, hAm, hS, hcs, by show lv_has ls 4 [(0, .ref b), (1, .ref qx), (2, .ref qm), (3, .int (nI (5 * (i + 1))))]; rw [show 5 * (i + 1) = 5 * i + 5 by omega]; exact lv_sub hl [1, 2, 3, 0] rfl⟩
    generalize xs (5 * i) &&& nI 31 = v
    rcases hv : ix v 21 with _ | j
    · refine lv_tableOut (tgt := 845) hx hb dL_law_32 (sw_out (n := 21) rfl (by decide) hv) (by decide) ?_
      exact kk _ _ _ _ _ _ hP0
    · obtain ⟨hj, rfl⟩ := ix_some (by decide) hv
      match j, hj with
      | 0, _ =>
        refine lv_tableIn (tgt := 132) hx hb dL_law_32 (by decide) (by decide) rfl (by decide) ?_
        exact lw_c0 C0 hL h5 hP0 kk
      | 1, _ =>
        refine lv_tableIn (tgt := 165) hx hb dL_law_32 (by decide) (by decide) rfl (by decide) ?_
        exact lw_c1 C0 hL h5 hP0 kk
      | 2, _ =>
        refine lv_tableIn (tgt := 214) hx hb dL_law_32 (by decide) (by decide) rfl (by decide) ?_
        exact lw_c2 C0 hL h5 hP0 kk
      | 3, _ =>
        refine lv_tableIn (tgt := 237) hx hb dL_law_32 (by decide) (by decide) rfl (by decide) ?_
        exact lw_c3 C0 hL h5 hP0 kk
      | 4, _ =>
        refine lv_tableIn (tgt := 271) hx hb dL_law_32 (by decide) (by decide) rfl (by decide) ?_
        exact lw_c4 C0 hL h5 hP0 kk
      | 5, _ =>
        refine lv_tableIn (tgt := 315) hx hb dL_law_32 (by decide) (by decide) rfl (by decide) ?_
        exact lw_c5 C0 hL h5 hP0 kk
      | 6, _ =>
        refine lv_tableIn (tgt := 388) hx hb dL_law_32 (by decide) (by decide) rfl (by decide) ?_
        exact lw_c6 C0 hL h5 hP0 kk
      | 7, _ =>
        refine lv_tableIn (tgt := 441) hx hb dL_law_32 (by decide) (by decide) rfl (by decide) ?_
        exact lw_c7 C0 hL h5 hP0 kk
      | 8, _ =>
        refine lv_tableIn (tgt := 464) hx hb dL_law_32 (by decide) (by decide) rfl (by decide) ?_
        exact lw_c8 C0 hL h5 hP0 kk
      | 9, _ =>
        refine lv_tableIn (tgt := 487) hx hb dL_law_32 (by decide) (by decide) rfl (by decide) ?_
        exact lw_c9 C0 hL h5 hP0 kk
      | 10, _ =>
        refine lv_tableIn (tgt := 510) hx hb dL_law_32 (by decide) (by decide) rfl (by decide) ?_
        exact lw_c10 C0 hL h5 hP0 kk
      | 11, _ =>
        refine lv_tableIn (tgt := 533) hx hb dL_law_32 (by decide) (by decide) rfl (by decide) ?_
        exact lw_c11 C0 hL h5 hP0 kk
      | 12, _ =>
        refine lv_tableIn (tgt := 566) hx hb dL_law_32 (by decide) (by decide) rfl (by decide) ?_
        exact lw_c12 C0 hL h5 hP0 kk
      | 13, _ =>
        refine lv_tableIn (tgt := 599) hx hb dL_law_32 (by decide) (by decide) rfl (by decide) ?_
        exact lw_c13 C0 hL h5 hP0 kk
      | 14, _ =>
        refine lv_tableIn (tgt := 632) hx hb dL_law_32 (by decide) (by decide) rfl (by decide) ?_
        exact lw_c14 C0 hL h5 hP0 kk
      | 15, _ =>
        refine lv_tableIn (tgt := 665) hx hb dL_law_32 (by decide) (by decide) rfl (by decide) ?_
        exact lw_c15 C0 hL h5 hP0 kk
      | 16, _ =>
        refine lv_tableIn (tgt := 699) hx hb dL_law_32 (by decide) (by decide) rfl (by decide) ?_
        exact lw_c16 C0 hL h5 hP0 kk
      | 17, _ =>
        refine lv_tableIn (tgt := 743) hx hb dL_law_32 (by decide) (by decide) rfl (by decide) ?_
        exact lw_c17 C0 hL h5 hP0 kk
      | 18, _ =>
        refine lv_tableIn (tgt := 776) hx hb dL_law_32 (by decide) (by decide) rfl (by decide) ?_
        exact lw_c18 C0 hL h5 hP0 kk
      | 19, _ =>
        refine lv_tableIn (tgt := 809) hx hb dL_law_32 (by decide) (by decide) rfl (by decide) ?_
        exact lw_c19 C0 hL h5 hP0 kk
      | 20, _ =>
        refine lv_tableIn (tgt := 822) hx hb dL_law_32 (by decide) (by decide) rfl (by decide) ?_
        exact lw_c20 C0 hL h5 hP0 kk
      | n + 21, h => exact absurd h (by omega)
set_option maxHeartbeats 4000000 in
set_option maxRecDepth 100000 in
theorem whole_start {p : Program} {e : Env} {s : State} {m : MethodId} {below : List Frame} {meth : Method} {c : Code} (l : Launch) {b L : Nat} {xs : Nat → Int32} (hL : L ≤ 2560) (C0 : lw_At p s m meth c b L xs) : W p l e room_1 s m #[Value.ref b] below meth c s.heap [] 0 0 (lw_Z below #[Value.ref b] s) (entryFrame m ([Value.ref b] : List Value).toArray 4) := by
  obtain ⟨hx, hb, hr, hml, hown, hts0, hX, hbl, hlocks, hgv⟩ := id C0
  obtain ⟨env, hB⟩ := law_env C0
  have hts : ∀ ww ∈ TT, ww.before #[Value.ref b] s = true := fun ww hw => tb_start hts0 ww hw _
  have hF : CallFix p m c cL_law 4 s #[Value.ref b] TT RL := ⟨hx, hb, hml, hown, hts⟩
  have hl := lv_entry ([.ref b]) (n := 4) (Nat.le_of_ble_eq_true rfl)
  rw [lg_entry_eq]
  generalize (lg_sl ([.ref b]) ++ List.replicate (4 - (lg_sl ([.ref b])).length) Slot.unset).toArray = ls at hl ⊢
  have hl : lv_has ls 4 [(0, .ref b)] := hl
  refine w_new (ci := 5) (fs := [.null, .int 0, .int 0, .null, .null, .null]) hF hB rfl in_X4 tyX4 tyX4_ok tw_1_16 tw_1_17 tw_1_1 (fun j hj => by match j, hj with | 0, _ => rfl | 1, _ => rfl | 2, _ => rfl | 3, _ => rfl | 4, _ => rfl | 5, _ => rfl | n + 6, h => exact absurd h (by omega)) (Nat.le_of_ble_eq_true rfl) (Nat.le_of_ble_eq_true rfl) dL_law_0 (fun qx H hB => ?_)
  refine lv_dup hx hb dL_law_3 rfl ?_
  refine w_cv (r_I (As := []) (rest := [.ref (qx)]) hF hB (c_X4_init l env s.heap.size [] (u00 env m01) (qx) m01 rfl) ci_X4_init tw_1_18 ⟨rfl, rfl, Nat.le_of_ble_eq_true rfl, Nat.le_of_ble_eq_true rfl⟩ rfl hl.1 rfl (lv_room (Nat.le_of_ble_eq_true rfl)) dL_law_4 ⟨Nat.le_of_ble_eq_true rfl, Nat.le_of_ble_eq_true rfl⟩) hB (fun ux H locs hq hB => ?_)
  obtain ⟨ph, rfl, hZ1, hk1, hAx⟩ := hq
  refine lv_astore_n (lv' := [(1, .ref qx), (0, .ref b)]) hx hb dL_law_7 rfl hl (by decide) rfl (fun ls hl => ?_)
  refine w_new (ci := 6) (fs := [.int 0, .int 0, .int 0, .null, .null, .int 0, .null, .null, .null, .null, .null, .null, .null, .null, .null, .null, .null, .null, .null, .null, .null, .null, .int 0, .null, .null, .null, .null]) hF hB rfl in_X5 tyX5 tyX5_ok tw_3_89 tw_3_90 tw_1_7 (fun j hj => by match j, hj with | 0, _ => rfl | 1, _ => rfl | 2, _ => rfl | 3, _ => rfl | 4, _ => rfl | 5, _ => rfl | 6, _ => rfl | 7, _ => rfl | 8, _ => rfl | 9, _ => rfl | 10, _ => rfl | 11, _ => rfl | 12, _ => rfl | 13, _ => rfl | 14, _ => rfl | 15, _ => rfl | 16, _ => rfl | 17, _ => rfl | 18, _ => rfl | 19, _ => rfl | 20, _ => rfl | 21, _ => rfl | 22, _ => rfl | 23, _ => rfl | 24, _ => rfl | 25, _ => rfl | 26, _ => rfl | n + 27, h => exact absurd h (by omega)) (Nat.le_of_ble_eq_true rfl) (Nat.le_of_ble_eq_true rfl) dL_law_8 (fun qm H hB => ?_)
  refine lv_dup hx hb dL_law_11 rfl ?_
  refine w_cv (r_I (As := []) (rest := [.ref (qm)]) hF hB (c_X5_init l env s.heap.size [] (ph, cInit, m01) (qm) rfl hZ1 hk1) ci_X5_init tw_3_91 ⟨rfl, rfl, Nat.le_of_ble_eq_true rfl, Nat.le_of_ble_eq_true rfl⟩ rfl hl.1 rfl (lv_room (Nat.le_of_ble_eq_true rfl)) dL_law_12 ⟨Nat.le_of_ble_eq_true rfl, Nat.le_of_ble_eq_true rfl⟩) hB (fun ux H locs hq hB => ?_)
  obtain ⟨ph2, rfl, hZ2, hK2, hM2, hAm⟩ := hq
  refine lv_astore_n (lv' := [(2, .ref qm), (1, .ref qx), (0, .ref b)]) hx hb dL_law_15 rfl hl (by decide) rfl (fun ls hl => ?_)
  refine lv_iconst (v := nI 0) hx hb dL_law_16 (by decide) ?_
  refine lv_istore_n (lv' := [(3, .int (nI 0)), (2, .ref qm), (1, .ref qx), (0, .ref b)]) hx hb dL_law_17 rfl hl (by decide) rfl (fun ls hl => ?_)
  refine W.widen (k := 100 + kc cInit) (n := 60000 + ks cInit) (by omega) (by omega) ?_
  exact law_loop l hL C0 (u := (ph2, cInit, mInit)) ⟨hB, hZ2, hM2, hK2.at (by decide) hAx, hAm, SS.init, ⟨rfl, rfl⟩, lv_sub hl [3, 2, 1, 0] rfl⟩

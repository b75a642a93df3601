set_option maxHeartbeats 4000000 in
set_option maxRecDepth 100000 in
theorem c_X4_commit (l : Launch) (env : Ev) (s0 : Nat) (X : va_W) (u : St) (a0 : Nat) (_xa0 : Nat) (ha0 : At u 0 (0) a0) (v1 : Int32) (hZ : SZ env u) (hNb : Nb u.2.1) (hok : Okm u.2.1) : Met l yX4_commit [Cond.code yX4_commit cX4_commit 3 (some .int)] { frames := 10, cells := kc ((ccommit u.2.1 v1).2) - kc u.2.1, slots := ks ((ccommit u.2.1 v1).2) - ks u.2.1, locals := 239 } (va_Pc [.ref (a0), .int (v1)] (Pr env s0 X u)) (va_Qi (fun r u' => ∃ ph, u' = (ph, (ccommit u.2.1 v1).2, u.2.2) ∧ SZ env (ph, (ccommit u.2.1 v1).2, u.2.2) ∧ Kp u (ph, (ccommit u.2.1 v1).2, u.2.2) ∧ r = (ccommit u.2.1 v1).1) (Po env s0 X) (fun q => s0 ≤ q)) (kc ((ccommit u.2.1 v1).2) - kc u.2.1) (ks ((ccommit u.2.1 v1).2) - ks u.2.1) (fun q => s0 ≤ q) := by
  refine Met.ofW (cc := cX4_commit) (maxL := 3) (ret := (some .int)) (by decide) rfl ?_
  intro p e s m args below meth c s₁ B hml hv
  obtain ⟨rfl, hv⟩ := hv
  have hx := B.exec
  have hb := B.bytes
  have hr := B.returns
  have hts : ∀ ww ∈ TT, ww.before #[.ref (a0), .int (v1)] s = true := fun ww hw => hv.2.1 ww hw _
  have hown : s.vm.findClass RX4 = some m.cls := findClass_of_methodNamed B.named
  have hlocks := B.notSynchronized
  have hF : CallFix p m c cX4_commit 3 s #[.ref (a0), .int (v1)] TT RX4 := ⟨hx, hb, hml, hown, hts⟩
  have hB := Bd.entry hv
  have hl := lv_entry ([.ref (a0), .int (v1)]) (n := 3) (Nat.le_of_ble_eq_true rfl)
  rw [lg_entry_eq]
  generalize (lg_sl ([.ref (a0), .int (v1)]) ++ List.replicate (3 - (lg_sl ([.ref (a0), .int (v1)])).length) Slot.unset).toArray = ls at hl ⊢
  have hl : lv_has ls 3 [(0, .ref (a0)), (1, .int (v1))] := hl
  have hI := hZ.1
  have hn4 := hI.nst
  have hn1 := hI.nth
  have hn2 := hI.ntx
  refine lv_aload_n hx hb dX4_commit_0 rfl (lv_at hl 0 rfl) ?_
  refine lv_iload_n hx hb dX4_commit_1 rfl (lv_at hl 1 rfl) ?_
  refine w_cq (r_V (As := [.int (v1)]) (rest := []) hF hB (c_X4_findTransaction l env s0 X u (a0) (0) (ha0) (v1) hI hNb) cv_X4_findTransaction tw_2_38 ⟨rfl, rfl, Nat.le_of_ble_eq_true rfl, Nat.le_of_ble_eq_true rfl⟩ (hB.recv ha0 (cn_0 env u (0)) rfl) rfl hl.1 rfl (lv_room (by decide)) dX4_commit_2 ⟨(by show _ ≤ kc ((ccommit u.2.1 v1).2) - kc u.2.1; first | omega | (dsimp only [wC]; omega)), (by show _ ≤ ks ((ccommit u.2.1 v1).2) - ks u.2.1; first | omega | (dsimp only [wC]; omega))⟩) hB (fun r_1 u_3 H locs hq_2 hB => ?_)
  obtain ⟨rfl, rfl⟩ := hq_2
  rcases hj_5 : ix v1 (gN u.2.1 3 1 0) with _ | j_4
  · show W p l e _ s m _ below meth c H locs _ _ _ (F0 m _ ls [.null])
    refine lv_astore_nN (lv' := [(2, .null), (0, .ref (a0)), (1, .int (v1))]) hx hb dX4_commit_5 rfl hl (by decide) rfl (fun ls hl => ?_)
    refine lv_aload_nN hx hb dX4_commit_6 rfl (lv_at hl 0 rfl) ?_
    refine lv_ifnonnullN hx hb dX4_commit_7 ?_
    refine lv_iconst (v := -1) hx hb dX4_commit_10 (by decide) ?_
    refine W.widen (k := kc ((ccommit u.2.1 v1).2) - kc u.2.1) (n := ks ((ccommit u.2.1 v1).2) - ks u.2.1) (by first | omega | (dsimp only [wC]; omega)) (by first | omega | (dsimp only [wC]; omega)) ?_
    exact w_iret (v := -1) hF hr hlocks hB ((by rw [show ccommit u.2.1 v1 = (-1, u.2.1) from by simp [ccommit, hj_5]]; exact ⟨u.1, rfl, hZ, Kp.rf u, rfl⟩)) dX4_commit_11
  · obtain ⟨hjl_6, rfl⟩ := ix_some (by have := hNb 3 1 0; omega) hj_5
    have hs := (hI.tx (hI.k8 hjl_6)).2
    have htt := hjl_6
    show W p l e _ s m _ below meth c H locs _ _ _ (F0 m _ ls [.ref (sA u 8 (j_4))])
    refine lv_astore_n (lv' := [(2, .ref (sA u 8 (j_4))), (0, .ref (a0)), (1, .int (nI (j_4)))]) hx hb dX4_commit_5 rfl hl (by decide) rfl (fun ls hl => ?_)
    refine lv_aload_n hx hb dX4_commit_6 rfl (lv_at hl 0 rfl) ?_
    refine lv_ifnonnull (tgt := 12) hx hb dX4_commit_7 (by decide) ?_
    refine lv_aload_n hx hb dX4_commit_12 rfl (lv_at hl 0 rfl) ?_
    refine w_getN (v := .int (nI (gN u.2.1 16 (j_4) (0)))) (fk := 9) hF hB ⟨(hI.k8 hjl_6), rfl⟩ (cn_8 env u (j_4)) rfl in_X3 (by decide) tw_1_236 rfl rfl dX4_commit_13 ?_
    refine w_ifeq_n (tgt := 22) (by have := hNb 16 (j_4) (0); omega) hx hb dX4_commit_16 (by decide) (fun c_7 => ?_) (fun c_7 => ?_)
    · have hE0 : ccommit u.2.1 (nI j_4) = (nI (gN (cCm u.2.1 j_4) 16 j_4 0), cCm u.2.1 j_4) := by simp [ccommit, hj_5, c_7]
      have hk0 : kc (ccommit u.2.1 (nI j_4)).2 = kc (cCm u.2.1 j_4) ∧ ks (ccommit u.2.1 (nI j_4)).2 = ks (cCm u.2.1 j_4) := by rw [hE0]; exact ⟨rfl, rfl⟩
      refine lv_aload_n hx hb dX4_commit_22 rfl (lv_at hl 1 rfl) ?_
      refine lv_aload_n hx hb dX4_commit_23 rfl (lv_at hl 0 rfl) ?_
      refine lv_aload_n hx hb dX4_commit_24 rfl (lv_at hl 0 rfl) ?_
      refine w_getN (v := .ref (sA u 5 (gN u.2.1 26 (j_4) 0))) (fk := 1) hF hB ⟨(hI.k8 hjl_6), rfl⟩ (cn_8 env u (j_4)) rfl in_X3 (by decide) tw_1_217 rfl rfl dX4_commit_25 ?_
      refine w_ci (r_V (As := [.ref (sA u 8 (j_4)), .ref (sA u 5 (gN u.2.1 26 (j_4) 0))]) (rest := []) hF hB (c_X4_allFree l env s0 X u (a0) (0) (ha0) (sA u 8 (j_4)) (j_4) (⟨(hI.k8 hjl_6), rfl⟩) (sA u 5 (gN u.2.1 26 (j_4) 0)) (gN u.2.1 26 (j_4) 0) (⟨(hI.k5 (hI.tx (hI.k8 hjl_6)).2), rfl⟩) hI hNb hs) cv_X4_allFree tw_2_118 ⟨rfl, rfl, Nat.le_of_ble_eq_true rfl, Nat.le_of_ble_eq_true rfl⟩ (hB.recv ha0 (cn_0 env u (0)) rfl) rfl hl.1 rfl (lv_room (by decide)) dX4_commit_28 ⟨(by show _ ≤ kc ((ccommit u.2.1 (nI j_4)).2) - kc u.2.1; first | omega | (dsimp only [wC]; omega)), (by show _ ≤ ks ((ccommit u.2.1 (nI j_4)).2) - ks u.2.1; first | omega | (dsimp only [wC]; omega))⟩) hB (fun r_8 u_10 H locs hq_9 hB => ?_)
      obtain ⟨rfl, rfl⟩ := hq_9
      refine w_ifne_b (tgt := 42) hx hb dX4_commit_31 (by decide) (fun c_11 => ?_) (fun c_11 => ?_)
      · refine lv_aload_n hx hb dX4_commit_42 rfl (lv_at hl 1 rfl) ?_
        refine lv_aload_n hx hb dX4_commit_43 rfl (lv_at hl 0 rfl) ?_
        refine w_ci (r_V (As := [.ref (sA u 8 (j_4))]) (rest := []) hF hB (c_X4_hasHomesElsewhere l env s0 X u (a0) (0) (ha0) (sA u 8 (j_4)) (j_4) (⟨(hI.k8 hjl_6), rfl⟩) hI hNb) cv_X4_hasHomesElsewhere tw_2_129 ⟨rfl, rfl, Nat.le_of_ble_eq_true rfl, Nat.le_of_ble_eq_true rfl⟩ (hB.recv ha0 (cn_0 env u (0)) rfl) rfl hl.1 rfl (lv_room (by decide)) dX4_commit_44 ⟨(by show _ ≤ kc ((ccommit u.2.1 (nI j_4)).2) - kc u.2.1; first | omega | (dsimp only [wC]; omega)), (by show _ ≤ ks ((ccommit u.2.1 (nI j_4)).2) - ks u.2.1; first | omega | (dsimp only [wC]; omega))⟩) hB (fun r_12 u_14 H locs hq_13 hB => ?_)
        obtain ⟨rfl, rfl⟩ := hq_13
        refine w_ifeq_b (tgt := 77) hx hb dX4_commit_47 (by decide) (fun c_15 => ?_) (fun c_15 => ?_)
        · have hE : cCm u.2.1 j_4 = cMk u.2.1 j_4 := by unfold cCm; rw [if_pos c_11, if_neg (by rw [c_15]; decide)]
          have hkE : kc (cCm u.2.1 j_4) = kc (cMk u.2.1 j_4) ∧ ks (cCm u.2.1 j_4) = ks (cMk u.2.1 j_4) := by rw [hE]; exact ⟨rfl, rfl⟩
          refine lv_aload_n hx hb dX4_commit_77 rfl (lv_at hl 1 rfl) ?_
          refine lv_aload_n hx hb dX4_commit_78 rfl (lv_at hl 0 rfl) ?_
          refine w_cv (r_V (As := [.ref (sA u 8 (j_4))]) (rest := []) hF hB (c_X4_makeCommitted l env s0 X u (a0) (0) (ha0) (sA u 8 (j_4)) (j_4) (⟨(hI.k8 hjl_6), rfl⟩) hZ hNb hok) cv_X4_makeCommitted tw_2_172 ⟨rfl, rfl, Nat.le_of_ble_eq_true rfl, Nat.le_of_ble_eq_true rfl⟩ (hB.recv ha0 (cn_0 env u (0)) rfl) rfl hl.1 rfl (lv_room (by decide)) dX4_commit_79 ⟨(by show _ ≤ kc ((ccommit u.2.1 (nI j_4)).2) - kc u.2.1; first | omega | (dsimp only [wC]; omega)), (by show _ ≤ ks ((ccommit u.2.1 (nI j_4)).2) - ks u.2.1; first | omega | (dsimp only [wC]; omega))⟩) hB (fun u_18 H locs hq_17 hB => ?_)
          obtain ⟨ph_19, rfl, hZ_20, hK_21⟩ := hq_17
          replace hB : Bd env s0 X (ph_19, (cMk u.2.1 (j_4)), u.2.2) s H locs := hB
          replace hZ_20 : SZ env (ph_19, (cMk u.2.1 (j_4)), u.2.2) := hZ_20
          replace hK_21 : Kp u (ph_19, (cMk u.2.1 (j_4)), u.2.2) := hK_21
          obtain ⟨T_22, hT_22⟩ : ∃ T, T = (cMk u.2.1 (j_4)) := ⟨_, rfl⟩
          rw [← hT_22] at hB hZ_20 hK_21
          have hI_23 : SI env (ph_19, T_22, u.2.2) := hZ_20.1
          have hNb_24 : Nb T_22 := by rw [hT_22]; exact Nb.mk hNb hok hs (by omega) hn4
          have hKp_25 : Kp u (ph_19, T_22, u.2.2) := hK_21
          show W p l e _ s m _ below meth c H locs _ _ _ (F0 m _ ls [])
          refine lv_aload_n hx hb dX4_commit_82 rfl (lv_at hl 0 rfl) ?_
          refine w_getN (v := .int (nI (gN T_22 16 (j_4) (0)))) (fk := 9) hF hB (hK_21.at (by decide) ⟨(hI.k8 hjl_6), rfl⟩) (cn_8 env (ph_19, T_22, u.2.2) (j_4)) rfl in_X3 (by decide) tw_1_236 rfl rfl dX4_commit_83 ?_
          refine W.widen (k := kc ((ccommit u.2.1 (nI j_4)).2) - kc u.2.1) (n := ks ((ccommit u.2.1 (nI j_4)).2) - ks u.2.1) (by first | omega | (dsimp only [wC]; omega)) (by first | omega | (dsimp only [wC]; omega)) ?_
          exact w_iret (v := nI (gN T_22 16 (j_4) (0))) hF hr hlocks hB ((by rw [hE0, hE, ← hT_22]; exact ⟨_, rfl, hZ_20, hKp_25, rfl⟩)) dX4_commit_86
        · have hE : cCm u.2.1 j_4 = cCmA u.2.1 j_4 := by unfold cCm; rw [if_pos c_11, if_pos c_15]
          have hk1 := kc_cmA u.2.1 j_4
          rw [← hE] at hk1
          have hk2 := kc_cmL u.2.1 j_4
          have hk3 := kc_cmH u.2.1 j_4
          refine lv_aload_n hx hb dX4_commit_50 rfl (lv_at hl 1 rfl) ?_
          refine lv_aload_n hx hb dX4_commit_51 rfl (lv_at hl 0 rfl) ?_
          refine lv_aload_n hx hb dX4_commit_52 rfl (lv_at hl 0 rfl) ?_
          refine w_getN (v := .ref (sA u 5 (gN u.2.1 26 (j_4) 0))) (fk := 1) hF hB ⟨(hI.k8 hjl_6), rfl⟩ (cn_8 env u (j_4)) rfl in_X3 (by decide) tw_1_217 rfl rfl dX4_commit_53 ?_
          refine w_cv (r_V (As := [.ref (sA u 8 (j_4)), .ref (sA u 5 (gN u.2.1 26 (j_4) 0))]) (rest := []) hF hB (c_X4_lockThings l env s0 X u (a0) (0) (ha0) (sA u 8 (j_4)) (j_4) (⟨(hI.k8 hjl_6), rfl⟩) (sA u 5 (gN u.2.1 26 (j_4) 0)) (gN u.2.1 26 (j_4) 0) (⟨(hI.k5 (hI.tx (hI.k8 hjl_6)).2), rfl⟩) hI hNb hs) cv_X4_lockThings tw_2_137 ⟨rfl, rfl, Nat.le_of_ble_eq_true rfl, Nat.le_of_ble_eq_true rfl⟩ (hB.recv ha0 (cn_0 env u (0)) rfl) rfl hl.1 rfl (lv_room (by decide)) dX4_commit_56 ⟨(by show _ ≤ kc ((ccommit u.2.1 (nI j_4)).2) - kc u.2.1; first | omega | (dsimp only [wC]; omega)), (by show _ ≤ ks ((ccommit u.2.1 (nI j_4)).2) - ks u.2.1; first | omega | (dsimp only [wC]; omega))⟩) hB (fun u_28 H locs hq_27 hB => ?_)
          obtain rfl := hq_27
          replace hB : Bd env s0 X (wC u (cLock u.2.1 (j_4) (gN u.2.1 26 (j_4) 0) (gN u.2.1 3 0 0))) s H locs := hB
          obtain ⟨T_29, hT_29⟩ : ∃ T, T = (cLock u.2.1 (j_4) (gN u.2.1 26 (j_4) 0) (gN u.2.1 3 0 0)) := ⟨_, rfl⟩
          rw [← hT_29] at hB
          have hI_30 : SI env (wC u T_29) := by rw [hT_29]; exact SI.sameN (cLock_N _ _ _ _) hI
          have hNb_31 : Nb T_29 := by rw [hT_29]; exact Nb.ofN (cLock_N _ _ _ _) hNb
          refine lv_aload_n hx hb dX4_commit_59 rfl (lv_at hl 0 rfl) ?_
          refine lv_iconst (v := nI 1) hx hb dX4_commit_60 (by decide) ?_
          refine w_putN (fk := 9) (v := .int (nI (1))) (ty := .int) hF hB ⟨(hI.k8 hjl_6), rfl⟩ (wC u (uN T_29 16 (j_4) (0) (1))) (cn_8 env (wC u T_29) (j_4)) rfl in_X3 tyX3 tyX3_ok nmX3 (by decide) tw_1_236 rfl rfl (by decide +kernel) rfl rfl (Nat.le_of_ble_eq_true rfl) rfl rfl (cu_N16 env (wC u T_29) (j_4) (1)) dX4_commit_61 (fun H locs hB => ?_)
          refine lv_aload_n hx hb dX4_commit_64 rfl (lv_at hl 0 rfl) ?_
          refine lv_aload_n hx hb dX4_commit_65 rfl (lv_at hl 1 rfl) ?_
          refine lv_aload_n hx hb dX4_commit_66 rfl (lv_at hl 0 rfl) ?_
          refine lv_iconst (v := nI 0) hx hb dX4_commit_67 (by decide) ?_
          have hc3 : (uN T_29 16 (j_4) (0) (1)) = cCmL u.2.1 j_4 := by rw [hT_29]; rfl
          have hkA : kc (uN T_29 16 (j_4) (0) (1)) = kc (cCmL u.2.1 j_4) ∧ ks (uN T_29 16 (j_4) (0) (1)) = ks (cCmL u.2.1 j_4) := by rw [hc3]; exact ⟨rfl, rfl⟩
          have hkB : kc (cToH (uN T_29 16 (j_4) (0) (1)) j_4 0 (gN (uN T_29 16 (j_4) (0) (1)) 0 0 0)) = kc (cCmH u.2.1 j_4) ∧ ks (cToH (uN T_29 16 (j_4) (0) (1)) j_4 0 (gN (uN T_29 16 (j_4) (0) (1)) 0 0 0)) = ks (cCmH u.2.1 j_4) := by rw [hc3]; exact ⟨rfl, rfl⟩
          have hrb3 : Rb (uN T_29 16 (j_4) (0) (1)) 4 := Rb.N (by rw [hc3, cCmL_N _ _ (by decide)]) (by rw [hc3, cCmL_N _ _ (by decide)]) hok.1
          have h03 : gN (uN T_29 16 (j_4) (0) (1)) 0 0 0 ≤ 4 := by rw [hc3, cCmL_N _ _ (by decide)]; exact hn4
          have h263 : gN (uN T_29 16 (j_4) (0) (1)) 26 j_4 0 < 4 := by rw [hc3, cCmL_N _ _ (by decide)]; exact hs
          have hZ3 : SZ env (wC u (uN T_29 16 (j_4) (0) (1))) := SZ.cn hZ (fun f hf => by rw [hc3, cCmL_N _ _ (by omega)])
          have hn3 := cToHn_le (uN T_29 16 (j_4) (0) (1)) j_4 0 (gN (uN T_29 16 (j_4) (0) (1)) 0 0 0)
          refine w_ci (r_V (As := [.ref (sA u 8 (j_4)), .int (nI (0))]) (rest := [.ref (sA u 8 (j_4))]) hF hB (c_X4_tellHomes l env s0 X (wC u (uN T_29 16 (j_4) (0) (1))) (a0) (0) (ha0) (sA u 8 (j_4)) (j_4) (⟨(hI.k8 hjl_6), rfl⟩) (0) hZ3 (Nb.uN hNb_31 (f := 16) (i := j_4) (j := 0) (v := 1) (by decide)) hrb3 (by omega)) cv_X4_tellHomes tw_2_141 ⟨rfl, rfl, Nat.le_of_ble_eq_true rfl, Nat.le_of_ble_eq_true rfl⟩ (hB.recv ha0 (cn_0 env (wC u (uN T_29 16 (j_4) (0) (1))) (0)) rfl) rfl hl.1 rfl (lv_room (Nat.le_of_ble_eq_true rfl)) dX4_commit_68 ⟨(by show _ ≤ kc ((ccommit u.2.1 (nI j_4)).2) - kc u.2.1; first | omega | (dsimp only [wC]; omega)), (by show _ ≤ ks ((ccommit u.2.1 (nI j_4)).2) - ks u.2.1; first | omega | (dsimp only [wC]; omega))⟩) hB (fun r_32 u_34 H locs hq_33 hB => ?_)
          obtain ⟨ph_35, rfl, hZ_36, hK_37, rfl⟩ := hq_33
          replace hB : Bd env s0 X (ph_35, (cToH ((uN T_29 16 (j_4) (0) (1))) (j_4) (0) (gN ((uN T_29 16 (j_4) (0) (1))) 0 0 0)), u.2.2) s H locs := hB
          replace hZ_36 : SZ env (ph_35, (cToH ((uN T_29 16 (j_4) (0) (1))) (j_4) (0) (gN ((uN T_29 16 (j_4) (0) (1))) 0 0 0)), u.2.2) := hZ_36
          replace hK_37 : Kp (wC u (uN T_29 16 (j_4) (0) (1))) (ph_35, (cToH ((uN T_29 16 (j_4) (0) (1))) (j_4) (0) (gN ((uN T_29 16 (j_4) (0) (1))) 0 0 0)), u.2.2) := hK_37
          obtain ⟨T_38, hT_38⟩ : ∃ T, T = (cToH ((uN T_29 16 (j_4) (0) (1))) (j_4) (0) (gN ((uN T_29 16 (j_4) (0) (1))) 0 0 0)) := ⟨_, rfl⟩
          rw [← hT_38] at hB hZ_36 hK_37
          have hI_39 : SI env (ph_35, T_38, u.2.2) := hZ_36.1
          have hNb_40 : Nb T_38 := by rw [hT_38]; exact cToH_Nb _ _ _ (Nb.uN hNb_31 (f := 16) (i := j_4) (j := 0) (v := 1) (by decide)) hrb3 (by omega) (by omega) h263 _ h03
          have hKp_41 : Kp u (ph_35, T_38, u.2.2) := hK_37
          have hc4 : T_38 = cCmH u.2.1 j_4 := by rw [hT_38, hc3]; rfl
          show W p l e _ s m _ below meth c H locs _ _ _ (F0 m _ ls [.int (nI (cToHn ((uN T_29 16 (j_4) (0) (1))) (j_4) (0) (gN ((uN T_29 16 (j_4) (0) (1))) 0 0 0))), .ref (sA u 8 (j_4))])
          refine w_putN (fk := 11) (v := .int (nI (cToHn ((uN T_29 16 (j_4) (0) (1))) (j_4) (0) (gN ((uN T_29 16 (j_4) (0) (1))) 0 0 0)))) (ty := .int) hF hB (hK_37.at (by decide) ⟨(hI.k8 hjl_6), rfl⟩) (wC (ph_35, T_38, u.2.2) (uN T_38 18 (j_4) (0) (cToHn ((uN T_29 16 (j_4) (0) (1))) (j_4) (0) (gN ((uN T_29 16 (j_4) (0) (1))) 0 0 0)))) (cn_8 env (ph_35, T_38, u.2.2) (j_4)) rfl in_X3 tyX3 tyX3_ok nmX3 (by decide) tw_2_0 rfl rfl (by decide +kernel) rfl rfl (Nat.le_of_ble_eq_true rfl) rfl rfl (cu_N18 env (ph_35, T_38, u.2.2) (j_4) (cToHn ((uN T_29 16 (j_4) (0) (1))) (j_4) (0) (gN ((uN T_29 16 (j_4) (0) (1))) 0 0 0))) dX4_commit_71 (fun H locs hB => ?_)
          refine lv_goto (tgt := 82) hx hb dX4_commit_74 (by decide) ?_
          refine lv_aload_n hx hb dX4_commit_82 rfl (lv_at hl 0 rfl) ?_
          refine w_getN (v := .int (nI (gN T_38 16 (j_4) (0)))) (fk := 9) hF hB (hK_37.at (by decide) ⟨(hI.k8 hjl_6), rfl⟩) (cn_8 env (wC (ph_35, T_38, u.2.2) (uN T_38 18 (j_4) (0) (cToHn ((uN T_29 16 (j_4) (0) (1))) (j_4) (0) (gN ((uN T_29 16 (j_4) (0) (1))) 0 0 0)))) (j_4)) rfl in_X3 (by decide) tw_1_236 rfl rfl dX4_commit_83 ?_
          have hc5 : cCm u.2.1 j_4 = (uN T_38 18 (j_4) (0) (cToHn ((uN T_29 16 (j_4) (0) (1))) (j_4) (0) (gN ((uN T_29 16 (j_4) (0) (1))) 0 0 0))) := by rw [hE, hc4, hc3]; rfl
          refine W.widen (k := kc ((ccommit u.2.1 (nI j_4)).2) - kc u.2.1) (n := ks ((ccommit u.2.1 (nI j_4)).2) - ks u.2.1) (by first | omega | (dsimp only [wC]; omega)) (by first | omega | (dsimp only [wC]; omega)) ?_
          exact w_iret (v := nI (gN T_38 16 (j_4) (0))) hF hr hlocks hB ((by rw [hE0, hc5]; exact ⟨_, rfl, SZ.cn hZ_36 (fun f hf => by rw [gN_f _ _ _ _ _ (by omega)]), Kp.c hKp_41, rfl⟩)) dX4_commit_86
      · have hE : cCm u.2.1 j_4 = uN u.2.1 16 j_4 0 3 := by unfold cCm; exact if_neg (by rw [c_11]; decide)
        have hk1 := kc_16 u.2.1 j_4 3
        rw [← hE] at hk1
        refine lv_aload_n hx hb dX4_commit_34 rfl (lv_at hl 0 rfl) ?_
        refine lv_iconst (v := nI 3) hx hb dX4_commit_35 (by decide) ?_
        refine w_putN (fk := 9) (v := .int (nI (3))) (ty := .int) hF hB ⟨(hI.k8 hjl_6), rfl⟩ (wC u (uN u.2.1 16 (j_4) (0) (3))) (cn_8 env u (j_4)) rfl in_X3 tyX3 tyX3_ok nmX3 (by decide) tw_1_236 rfl rfl (by decide +kernel) rfl rfl (Nat.le_of_ble_eq_true rfl) rfl rfl (cu_N16 env u (j_4) (3)) dX4_commit_36 (fun H locs hB => ?_)
        refine lv_goto (tgt := 82) hx hb dX4_commit_39 (by decide) ?_
        refine lv_aload_n hx hb dX4_commit_82 rfl (lv_at hl 0 rfl) ?_
        refine w_getN (v := .int (nI (3))) (fk := 9) hF hB ⟨(hI.k8 hjl_6), rfl⟩ (cn_8 env (wC u (uN u.2.1 16 (j_4) (0) (3))) (j_4)) rfl in_X3 (by decide) tw_1_236 rfl (by simp [wC, vN, vB, uN, uB, gN, gB, up3]) dX4_commit_83 ?_
        refine W.widen (k := kc ((ccommit u.2.1 (nI j_4)).2) - kc u.2.1) (n := ks ((ccommit u.2.1 (nI j_4)).2) - ks u.2.1) (by first | omega | (dsimp only [wC]; omega)) (by first | omega | (dsimp only [wC]; omega)) ?_
        exact w_iret (v := nI 3) hF hr hlocks hB ((by rw [hE0, hE]; exact ⟨u.1, rfl, SZ.cn hZ (fun f hf => gN_f _ _ _ _ _ (by omega)), Kp.w u _ _, by rw [gN_uN]; simp⟩)) dX4_commit_86
    · refine lv_bipush (v := -2) hx hb dX4_commit_19 (by decide) ?_
      refine W.widen (k := kc ((ccommit u.2.1 (nI j_4)).2) - kc u.2.1) (n := ks ((ccommit u.2.1 (nI j_4)).2) - ks u.2.1) (by first | omega | (dsimp only [wC]; omega)) (by first | omega | (dsimp only [wC]; omega)) ?_
      exact w_iret (v := -2) hF hr hlocks hB ((by rw [show ccommit u.2.1 (nI j_4) = (-2, u.2.1) from by simp [ccommit, hj_5, c_7]]; exact ⟨u.1, rfl, hZ, Kp.rf u, rfl⟩)) dX4_commit_21
set_option maxHeartbeats 4000000 in
set_option maxRecDepth 100000 in
theorem c_X4_deliver (l : Launch) (env : Ev) (s0 : Nat) (X : va_W) (u : St) (a0 : Nat) (_xa0 : Nat) (ha0 : At u 0 (0) a0) (v1 : Int32) (hZ : SZ env u) (hNb : Nb u.2.1) (hok : Okc u.2.1) : Met l yX4_deliver [Cond.code yX4_deliver cX4_deliver 3 (some .int)] { frames := 12, cells := kc ((cdeliver u.2.1 v1).2) - kc u.2.1, slots := ks ((cdeliver u.2.1 v1).2) - ks u.2.1, locals := 281 } (va_Pc [.ref (a0), .int (v1)] (Pr env s0 X u)) (va_Qi (fun r u' => ∃ ph, u' = (ph, (cdeliver u.2.1 v1).2, u.2.2) ∧ SZ env (ph, (cdeliver u.2.1 v1).2, u.2.2) ∧ Kp u (ph, (cdeliver u.2.1 v1).2, u.2.2) ∧ r = (cdeliver u.2.1 v1).1) (Po env s0 X) (fun q => s0 ≤ q)) (kc ((cdeliver u.2.1 v1).2) - kc u.2.1) (ks ((cdeliver u.2.1 v1).2) - ks u.2.1) (fun q => s0 ≤ q) := by
  refine Met.ofW (cc := cX4_deliver) (maxL := 3) (ret := (some .int)) (by decide) rfl ?_
  intro p e s m args below meth c s₁ B hml hv
  obtain ⟨rfl, hv⟩ := hv
  have hx := B.exec
  have hb := B.bytes
  have hr := B.returns
  have hts : ∀ ww ∈ TT, ww.before #[.ref (a0), .int (v1)] s = true := fun ww hw => hv.2.1 ww hw _
  have hown : s.vm.findClass RX4 = some m.cls := findClass_of_methodNamed B.named
  have hlocks := B.notSynchronized
  have hF : CallFix p m c cX4_deliver 3 s #[.ref (a0), .int (v1)] TT RX4 := ⟨hx, hb, hml, hown, hts⟩
  have hB := Bd.entry hv
  have hl := lv_entry ([.ref (a0), .int (v1)]) (n := 3) (Nat.le_of_ble_eq_true rfl)
  rw [lg_entry_eq]
  generalize (lg_sl ([.ref (a0), .int (v1)]) ++ List.replicate (3 - (lg_sl ([.ref (a0), .int (v1)])).length) Slot.unset).toArray = ls at hl ⊢
  have hl : lv_has ls 3 [(0, .ref (a0)), (1, .int (v1))] := hl
  have hI := hZ.1
  have hn4 := hI.nst
  have hn1 := hI.nth
  have hn2 := hI.ntx
  refine lv_aload_n hx hb dX4_deliver_0 rfl (lv_at hl 0 rfl) ?_
  refine lv_iload_n hx hb dX4_deliver_1 rfl (lv_at hl 1 rfl) ?_
  refine w_cq (r_V (As := [.int (v1)]) (rest := []) hF hB (c_X4_findMessage l env s0 X u (a0) (0) (ha0) (v1) hI hNb) cv_X4_findMessage tw_2_201 ⟨rfl, rfl, Nat.le_of_ble_eq_true rfl, Nat.le_of_ble_eq_true rfl⟩ (hB.recv ha0 (cn_0 env u (0)) rfl) rfl hl.1 rfl (lv_room (by decide)) dX4_deliver_2 ⟨(by show _ ≤ kc ((cdeliver u.2.1 v1).2) - kc u.2.1; first | omega | (dsimp only [wC]; omega)), (by show _ ≤ ks ((cdeliver u.2.1 v1).2) - ks u.2.1; first | omega | (dsimp only [wC]; omega))⟩) hB (fun r_1 u_3 H locs hq_2 hB => ?_)
  obtain ⟨rfl, rfl⟩ := hq_2
  rcases hj_5 : ix v1 (gN u.2.1 3 2 0) with _ | j_4
  · show W p l e _ s m _ below meth c H locs _ _ _ (F0 m _ ls [.null])
    refine lv_astore_nN (lv' := [(2, .null), (0, .ref (a0)), (1, .int (v1))]) hx hb dX4_deliver_5 rfl hl (by decide) rfl (fun ls hl => ?_)
    refine lv_aload_nN hx hb dX4_deliver_6 rfl (lv_at hl 0 rfl) ?_
    refine lv_ifnonnullN hx hb dX4_deliver_7 ?_
    refine lv_iconst (v := -1) hx hb dX4_deliver_10 (by decide) ?_
    refine W.widen (k := kc ((cdeliver u.2.1 v1).2) - kc u.2.1) (n := ks ((cdeliver u.2.1 v1).2) - ks u.2.1) (by first | omega | (dsimp only [wC]; omega)) (by first | omega | (dsimp only [wC]; omega)) ?_
    exact w_iret (v := -1) hF hr hlocks hB ((by rw [show cdeliver u.2.1 v1 = (-1, u.2.1) from by simp [cdeliver, hj_5]]; exact ⟨u.1, rfl, hZ, Kp.rf u, rfl⟩)) dX4_deliver_11
  · obtain ⟨hjl_6, rfl⟩ := ix_some (by have := hNb 3 2 0; omega) hj_5
    show W p l e _ s m _ below meth c H locs _ _ _ (F0 m _ ls [.ref (sA u 14 (gN u.2.1 31 (0) (j_4)))])
    refine lv_astore_n (lv' := [(2, .ref (sA u 14 (gN u.2.1 31 (0) (j_4)))), (0, .ref (a0)), (1, .int (nI (j_4)))]) hx hb dX4_deliver_5 rfl hl (by decide) rfl (fun ls hl => ?_)
    refine lv_aload_n hx hb dX4_deliver_6 rfl (lv_at hl 0 rfl) ?_
    refine lv_ifnonnull (tgt := 12) hx hb dX4_deliver_7 (by decide) ?_
    refine lv_aload_n hx hb dX4_deliver_12 rfl (lv_at hl 0 rfl) ?_
    refine w_ci (r_VN (As := []) (rest := []) hF hB (c_X0_canCome l env s0 X u (sA u 14 (gN u.2.1 31 (0) (j_4))) (gN u.2.1 31 (0) (j_4)) (⟨(hI.k14 hjl_6), rfl⟩) hI hNb) cv_X0_canCome tw_2_205 ⟨rfl, rfl, Nat.le_of_ble_eq_true rfl, Nat.le_of_ble_eq_true rfl⟩ (hB.recv ⟨(hI.k14 hjl_6), rfl⟩ (cn_14 env u (gN u.2.1 31 (0) (j_4))) rfl) rfl hl.1 rfl (lv_room (by decide)) dX4_deliver_13 ⟨(by show _ ≤ kc ((cdeliver u.2.1 (nI j_4)).2) - kc u.2.1; first | omega | (dsimp only [wC]; omega)), (by show _ ≤ ks ((cdeliver u.2.1 (nI j_4)).2) - ks u.2.1; first | omega | (dsimp only [wC]; omega))⟩) hB (fun r_7 u_9 H locs hq_8 hB => ?_)
    obtain ⟨rfl, rfl⟩ := hq_8
    refine w_ifne_b (tgt := 22) hx hb dX4_deliver_16 (by decide) (fun c_10 => ?_) (fun c_10 => ?_)
    · have hE0 : cdeliver u.2.1 (nI j_4) = (nI (gN (cDl u.2.1 j_4) 21 (gN u.2.1 31 0 j_4) 0), cDl u.2.1 j_4) := by simp [cdeliver, hj_5, c_10]
      have hk0 : kc (cdeliver u.2.1 (nI j_4)).2 = kc (cDl u.2.1 j_4) ∧ ks (cdeliver u.2.1 (nI j_4)).2 = ks (cDl u.2.1 j_4) := by rw [hE0]; exact ⟨rfl, rfl⟩
      refine lv_aload_n hx hb dX4_deliver_22 rfl (lv_at hl 1 rfl) ?_
      refine w_get (v := .ref (sA u 2 (2))) (fk := 5) hF hB ha0 (cn_0 env u (0)) rfl in_X4 (by decide) tw_1_86 rfl rfl dX4_deliver_23 ?_
      refine lv_iload_n hx hb dX4_deliver_26 rfl (lv_at hl 2 rfl) ?_
      refine w_cq (r_V (As := [.int (nI (j_4))]) (rest := []) hF hB (c_Jx4a65c_remove_915e3 l env s0 X u (sA u 2 (2)) (2) (⟨(hI.k2 (by decide)), rfl⟩) (j_4) (hI.get (by decide) hjl_6).1 hjl_6 (hI.get (by decide) hjl_6).2.1 (hI.get (by decide) hjl_6).2.2 (hI.objs (by decide)) hNb) cv_Jx4a65c_remove_915e3 tw_2_213 ⟨rfl, rfl, Nat.le_of_ble_eq_true rfl, Nat.le_of_ble_eq_true rfl⟩ (hB.recv ⟨(hI.k2 (by decide)), rfl⟩ (cn_2 env u (2)) rfl) rfl hl.1 rfl (lv_room (by decide)) dX4_deliver_27 ⟨(by show _ ≤ kc ((cdeliver u.2.1 (nI j_4)).2) - kc u.2.1; first | omega | (dsimp only [wC]; omega)), (by show _ ≤ ks ((cdeliver u.2.1 (nI j_4)).2) - ks u.2.1; first | omega | (dsimp only [wC]; omega))⟩) hB (fun r_11 u_13 H locs hq_12 hB => ?_)
      obtain ⟨rfl, rfl⟩ := hq_12
      rw [hI.e2 hjl_6]
      obtain ⟨phr, hBr, hZr, hKr⟩ := SZ.rem' (ph0 := u.1) (c := u.2.1) (m := u.2.2) (j := j_4) hZ hjl_6
      replace hB := hBr _ _ _ _ _ hB
      obtain ⟨TR, hTR⟩ : ∃ T, T = cRem u.2.1 j_4 := ⟨_, rfl⟩
      rw [← hTR] at hB hZr hKr
      replace hKr : Kp u (phr, TR, u.2.2) := hKr
      have hIr : SI env (phr, TR, u.2.2) := hZr.1
      have hNbr : Nb TR := by rw [hTR]; exact nb_rem hNb
      have hKpr : Kp u (phr, TR, u.2.2) := hKr
      have hokr : Okc TR := by rw [hTR]; exact Okc.rem hok _
      have hkr := kc_rem u.2.1 j_4
      rw [← hTR] at hkr
      have hm := hIr.ms (hKr _ _ (by decide) (hI.k14 hjl_6)).1
      have hm22 := hm.1
      have hm23 := hm.2.1
      have hm24 := hm.2.2
      have hm26 := (hIr.tx (hIr.k8 hm24)).2
      have hn4r := hIr.nst
      have hn2r := hIr.ntx
      have hkE : kc (cRecv TR (gN u.2.1 31 (0) (j_4))) = kc (cDl u.2.1 j_4) ∧ ks (cRecv TR (gN u.2.1 31 (0) (j_4))) = ks (cDl u.2.1 j_4) := by rw [hTR]; exact ⟨rfl, rfl⟩
      have hkM := kc_recv TR (gN u.2.1 31 (0) (j_4)) hm26 hm23
      show W p l e _ s m _ below meth c H locs _ _ _ (F0 m _ ls [.ref (sA u 14 (gN u.2.1 31 (0) (j_4)))])
      refine lv_pop hx hb dX4_deliver_30 rfl ?_
      refine lv_aload_n hx hb dX4_deliver_31 rfl (lv_at hl 1 rfl) ?_
      refine lv_aload_n hx hb dX4_deliver_32 rfl (lv_at hl 0 rfl) ?_
      refine w_cv (r_V (As := [.ref (sA u 14 (gN u.2.1 31 (0) (j_4)))]) (rest := []) hF hB (c_X4_receive l env s0 X (phr, TR, u.2.2) (a0) (0) ((hKr.at (by decide) ha0)) (sA u 14 (gN u.2.1 31 (0) (j_4))) (gN u.2.1 31 (0) (j_4)) ((hKr.at (by decide) ⟨(hI.k14 hjl_6), rfl⟩)) hZr hNbr hokr) cv_X4_receive tw_2_222 ⟨rfl, rfl, Nat.le_of_ble_eq_true rfl, Nat.le_of_ble_eq_true rfl⟩ (hB.recv (hKr.at (by decide) ha0) (cn_0 env (phr, TR, u.2.2) (0)) rfl) rfl hl.1 rfl (lv_room (by decide)) dX4_deliver_33 ⟨(by show _ ≤ kc ((cdeliver u.2.1 (nI j_4)).2) - kc u.2.1; first | omega | (dsimp only [wC]; omega)), (by show _ ≤ ks ((cdeliver u.2.1 (nI j_4)).2) - ks u.2.1; first | omega | (dsimp only [wC]; omega))⟩) hB (fun u_16 H locs hq_15 hB => ?_)
      obtain ⟨ph_17, rfl, hZ_18, hK_19⟩ := hq_15
      replace hB : Bd env s0 X (ph_17, (cRecv TR (gN u.2.1 31 (0) (j_4))), u.2.2) s H locs := hB
      replace hZ_18 : SZ env (ph_17, (cRecv TR (gN u.2.1 31 (0) (j_4))), u.2.2) := hZ_18
      replace hK_19 : Kp (phr, TR, u.2.2) (ph_17, (cRecv TR (gN u.2.1 31 (0) (j_4))), u.2.2) := hK_19
      obtain ⟨T_20, hT_20⟩ : ∃ T, T = (cRecv TR (gN u.2.1 31 (0) (j_4))) := ⟨_, rfl⟩
      rw [← hT_20] at hB hZ_18 hK_19
      have hI_21 : SI env (ph_17, T_20, u.2.2) := hZ_18.1
      have hNb_22 : Nb T_20 := by rw [hT_20]; exact Nb.recv hNbr hokr hm22 hm23 (Nat.lt_of_lt_of_le hm24 (Nat.le_trans hn2r (by decide))) hm26 hn4r
      have hKp_23 : Kp u (ph_17, T_20, u.2.2) := Kp.tr hKpr hK_19
      show W p l e _ s m _ below meth c H locs _ _ _ (F0 m _ ls [])
      refine lv_aload_n hx hb dX4_deliver_36 rfl (lv_at hl 0 rfl) ?_
      refine w_getN (v := .int (nI (gN T_20 21 (gN u.2.1 31 (0) (j_4)) (0)))) (fk := 0) hF hB (hK_19.at (by decide) (hKr.at (by decide) ⟨(hI.k14 hjl_6), rfl⟩)) (cn_14 env (ph_17, T_20, u.2.2) (gN u.2.1 31 (0) (j_4))) rfl in_X0 (by decide) tw_2_156 rfl rfl dX4_deliver_37 ?_
      refine W.widen (k := kc ((cdeliver u.2.1 (nI j_4)).2) - kc u.2.1) (n := ks ((cdeliver u.2.1 (nI j_4)).2) - ks u.2.1) (by first | omega | (dsimp only [wC]; omega)) (by first | omega | (dsimp only [wC]; omega)) ?_
      exact w_iret (v := nI (gN T_20 21 (gN u.2.1 31 (0) (j_4)) (0))) hF hr hlocks hB ((by rw [hE0, show cDl u.2.1 j_4 = T_20 from by rw [hT_20, hTR]; rfl]; exact ⟨_, rfl, hZ_18, hKp_23, rfl⟩)) dX4_deliver_40
    · refine lv_bipush (v := -2) hx hb dX4_deliver_19 (by decide) ?_
      refine W.widen (k := kc ((cdeliver u.2.1 (nI j_4)).2) - kc u.2.1) (n := ks ((cdeliver u.2.1 (nI j_4)).2) - ks u.2.1) (by first | omega | (dsimp only [wC]; omega)) (by first | omega | (dsimp only [wC]; omega)) ?_
      exact w_iret (v := -2) hF hr hlocks hB ((by rw [show cdeliver u.2.1 (nI j_4) = (-2, u.2.1) from by simp [cdeliver, hj_5, c_10]]; exact ⟨u.1, rfl, hZ, Kp.rf u, rfl⟩)) dX4_deliver_21
set_option maxHeartbeats 4000000 in
set_option maxRecDepth 100000 in
theorem c_X4_all (l : Launch) (env : Ev) (s0 : Nat) (X : va_W) (u : St) (a0 : Nat) (_xa0 : Nat) (ha0 : At u 0 (0) a0) (v1 : Int32) (hZ : SZ env u) (hNb : Nb u.2.1) (hok : ∀ i, Okc (cAll u.2.1 i)) (hmo : ∀ i j, i ≤ j → kc (cAll u.2.1 i) ≤ kc (cAll u.2.1 j) ∧ ks (cAll u.2.1 i) ≤ ks (cAll u.2.1 j)) (hna : ∀ i, Nb (cAll u.2.1 i)) : Met l yX4_all [Cond.code yX4_all cX4_all 5 (some .int)] { frames := 12, cells := kc ((call u.2.1 v1).2) - kc u.2.1, slots := ks ((call u.2.1 v1).2) - ks u.2.1, locals := 281 } (va_Pc [.ref (a0), .int (v1)] (Pr env s0 X u)) (va_Qi (fun r u' => ∃ ph, u' = (ph, (call u.2.1 v1).2, u.2.2) ∧ SZ env (ph, (call u.2.1 v1).2, u.2.2) ∧ Kp u (ph, (call u.2.1 v1).2, u.2.2) ∧ r = (call u.2.1 v1).1) (Po env s0 X) (fun q => s0 ≤ q)) (kc ((call u.2.1 v1).2) - kc u.2.1) (ks ((call u.2.1 v1).2) - ks u.2.1) (fun q => s0 ≤ q) := by
  refine Met.ofW (cc := cX4_all) (maxL := 5) (ret := (some .int)) (by decide) rfl ?_
  intro p e s m args below meth c s₁ B hml hv
  obtain ⟨rfl, hv⟩ := hv
  have hx := B.exec
  have hb := B.bytes
  have hr := B.returns
  have hts : ∀ ww ∈ TT, ww.before #[.ref (a0), .int (v1)] s = true := fun ww hw => hv.2.1 ww hw _
  have hown : s.vm.findClass RX4 = some m.cls := findClass_of_methodNamed B.named
  have hlocks := B.notSynchronized
  have hF : CallFix p m c cX4_all 5 s #[.ref (a0), .int (v1)] TT RX4 := ⟨hx, hb, hml, hown, hts⟩
  have hB := Bd.entry hv
  have hl := lv_entry ([.ref (a0), .int (v1)]) (n := 5) (Nat.le_of_ble_eq_true rfl)
  rw [lg_entry_eq]
  generalize (lg_sl ([.ref (a0), .int (v1)]) ++ List.replicate (5 - (lg_sl ([.ref (a0), .int (v1)])).length) Slot.unset).toArray = ls at hl ⊢
  have hl : lv_has ls 5 [(0, .ref (a0)), (1, .int (v1))] := hl
  have hI := hZ.1
  have hn4 := hI.nst
  have hn1 := hI.nth
  have hn2 := hI.ntx
  refine lv_iload_n hx hb dX4_all_0 rfl (lv_at hl 1 rfl) ?_
  refine lv_if_lt (tgt := 11) hx hb dX4_all_1 (by decide) (fun c_1 => ?_) (fun c_1 => ?_)
  · refine lv_iconst (v := -1) hx hb dX4_all_11 (by decide) ?_
    refine W.widen (k := kc ((call u.2.1 v1).2) - kc u.2.1) (n := ks ((call u.2.1 v1).2) - ks u.2.1) (by first | omega | (dsimp only [wC]; omega)) (by first | omega | (dsimp only [wC]; omega)) ?_
    exact w_iret (v := -1) hF hr hlocks hB ((by rw [show call u.2.1 v1 = (-1, u.2.1) from by unfold call; rw [ix_lt c_1]]; exact ⟨u.1, rfl, hZ, Kp.rf u, rfl⟩)) dX4_all_12
  · refine lv_iload_n hx hb dX4_all_4 rfl (lv_at hl 1 rfl) ?_
    refine lv_sipush (v := nI 500) hx hb dX4_all_5 (by decide) ?_
    refine lv_icmp_le (tgt := 13) hx hb dX4_all_8 (by decide) (fun c_2 => ?_) (fun c_2 => ?_)
    · obtain ⟨n, hnn, rfl⟩ := in_501 c_1 c_2
      have hE0 : call u.2.1 (nI n) = (nI (cAllK u.2.1 n), cAll u.2.1 n) := by unfold call; rw [ix_nI (by decide) hnn]
      have hk00 : kc (call u.2.1 (nI n)).2 = kc (cAll u.2.1 n) ∧ ks (call u.2.1 (nI n)).2 = ks (cAll u.2.1 n) := by rw [hE0]; exact ⟨rfl, rfl⟩
      refine lv_iconst (v := nI 0) hx hb dX4_all_13 (by decide) ?_
      refine lv_istore_n (lv' := [(2, .int (nI (0))), (0, .ref (a0)), (1, .int (nI (n)))]) hx hb dX4_all_14 rfl hl (by decide) rfl (fun ls hl => ?_)
      refine wloopH (σ := Heap × List Loc × Array Slot × Ph × Nat × Nat) (G := fun xx => W p l e _ s m _ below meth c xx.1 xx.2.1 xx.2.2.2.2.1 xx.2.2.2.2.2 _ (F0 m 15 xx.2.2.1 [])) (P := fun i_3 xx => (Bd env s0 X (xx.2.2.2.1, (cAll u.2.1 i_3), u.2.2) s xx.1 xx.2.1 ∧ SZ env (xx.2.2.2.1, (cAll u.2.1 i_3), u.2.2) ∧ Kp u (xx.2.2.2.1, (cAll u.2.1 i_3), u.2.2) ∧ xx.2.2.2.2.1 = kc (cAll u.2.1 i_3) - kc u.2.1 ∧ xx.2.2.2.2.2 = ks (cAll u.2.1 i_3) - ks u.2.1 ∧ cAllK u.2.1 i_3 = i_3) ∧ lv_has xx.2.2.1 5 [(0, .ref (a0)), (1, .int (nI (n))), (2, .int (nI (i_3)))]) (N := n) ?_ 0 (_, _, ls, u.1, 0, 0) (Nat.zero_le _) ⟨⟨hB, hZ, Kp.rf u, (Nat.sub_self _).symm, (Nat.sub_self _).symm, rfl⟩, lv_sub hl [1, 2, 0] rfl⟩
      rintro i_3 ⟨H, locs, ls, ph, lc, lsl⟩ hi_4 ⟨⟨hB, hZ0, hK0, hlc, hls, hiv⟩, hl⟩ ih15
      replace hB : Bd env s0 X (ph, (cAll u.2.1 i_3), u.2.2) s H locs := hB
      replace hZ0 : SZ env (ph, (cAll u.2.1 i_3), u.2.2) := hZ0
      replace hK0 : Kp u (ph, (cAll u.2.1 i_3), u.2.2) := hK0
      replace hlc : lc = kc (cAll u.2.1 i_3) - kc u.2.1 := hlc
      replace hls : lsl = ks (cAll u.2.1 i_3) - ks u.2.1 := hls
      subst hlc hls
      replace hl : lv_has ls 5 [(0, .ref (a0)), (1, .int (nI (n))), (2, .int (nI (i_3)))] := hl
      show W p l e _ s m _ below meth c H locs (kc (cAll u.2.1 i_3) - kc u.2.1) (ks (cAll u.2.1 i_3) - ks u.2.1) _ (F0 m 15 ls [])
      have hk0 := hmo 0 i_3 (Nat.zero_le _)
      replace hk0 : kc u.2.1 ≤ kc (cAll u.2.1 i_3) ∧ ks u.2.1 ≤ ks (cAll u.2.1 i_3) := hk0
      have hk2 := hmo i_3 n (by omega)
      have hI_5 : SI env (ph, (cAll u.2.1 i_3), u.2.2) := hZ0.1
      have hNb_6 : Nb (cAll u.2.1 i_3) := hna i_3
      refine lv_iload_n hx hb dX4_all_15 rfl (lv_at hl 2 rfl) ?_
      refine lv_iload_n hx hb dX4_all_16 rfl (lv_at hl 1 rfl) ?_
      refine w_icge_n (tgt := 60) (by omega) (by omega) hx hb dX4_all_17 (by decide) (fun c_7 => ?_) (fun c_7 => ?_)
      · refine lv_iload_n hx hb dX4_all_60 rfl (lv_at hl 1 rfl) ?_
        refine W.widen (k := kc ((call u.2.1 (nI n)).2) - kc u.2.1) (n := ks ((call u.2.1 (nI n)).2) - ks u.2.1) (by first | omega | (dsimp only [wC]; omega)) (by first | omega | (dsimp only [wC]; omega)) ?_
        exact w_iret (v := nI n) hF hr hlocks hB ((by rw [hE0, show n = i_3 by omega]; exact ⟨_, rfl, hZ0, hK0, by rw [hiv]⟩)) dX4_all_61
      · refine lv_aload_n hx hb dX4_all_20 rfl (lv_at hl 0 rfl) ?_
        refine w_ci (r_V (As := []) (rest := []) hF hB (c_X4_firstThatCanCome l env s0 X (ph, (cAll u.2.1 i_3), u.2.2) (a0) (0) ((hK0.at (by decide) ha0)) hI_5 hNb_6) cv_X4_firstThatCanCome tw_3_11 ⟨rfl, rfl, Nat.le_of_ble_eq_true rfl, Nat.le_of_ble_eq_true rfl⟩ (hB.recv (hK0.at (by decide) ha0) (cn_0 env (ph, (cAll u.2.1 i_3), u.2.2) (0)) rfl) rfl hl.1 rfl (lv_room (by decide)) dX4_all_21 ⟨(by show _ ≤ kc ((call u.2.1 (nI n)).2) - kc u.2.1; first | omega | (dsimp only [wC]; omega)), (by show _ ≤ ks ((call u.2.1 (nI n)).2) - ks u.2.1; first | omega | (dsimp only [wC]; omega))⟩) hB (fun r_8 u_10 H locs hq_9 hB => ?_)
        obtain ⟨rfl, rfl⟩ := hq_9
        rcases hf_11 : cFirst (cAll u.2.1 i_3) with _ | k_12
        · try rw [show cFirst (ph, (cAll u.2.1 i_3), u.2.2).2.1 = none from hf_11]
          show W p l e _ s m _ below meth c H locs _ _ _ (F0 m _ ls [.int (-4)])
          refine lv_istore_n (lv' := [(3, .int (-4)), (0, .ref (a0)), (1, .int (nI (n))), (2, .int (nI (i_3)))]) hx hb dX4_all_24 rfl hl (by decide) rfl (fun ls hl => ?_)
          refine lv_aload_n hx hb dX4_all_25 rfl (lv_at hl 1 rfl) ?_
          refine lv_iload_n hx hb dX4_all_26 rfl (lv_at hl 0 rfl) ?_
          refine w_cq (r_V (As := [.int (-4)]) (rest := []) hF hB (c_X4_findMessage l env s0 X (ph, (cAll u.2.1 i_3), u.2.2) (a0) (0) ((hK0.at (by decide) ha0)) (-4) hI_5 hNb_6) cv_X4_findMessage tw_2_201 ⟨rfl, rfl, Nat.le_of_ble_eq_true rfl, Nat.le_of_ble_eq_true rfl⟩ (hB.recv (hK0.at (by decide) ha0) (cn_0 env (ph, (cAll u.2.1 i_3), u.2.2) (0)) rfl) rfl hl.1 rfl (lv_room (by decide)) dX4_all_27 ⟨(by show _ ≤ kc ((call u.2.1 (nI n)).2) - kc u.2.1; first | omega | (dsimp only [wC]; omega)), (by show _ ≤ ks ((call u.2.1 (nI n)).2) - ks u.2.1; first | omega | (dsimp only [wC]; omega))⟩) hB (fun r_13 u_15 H locs hq_14 hB => ?_)
          obtain ⟨rfl, rfl⟩ := hq_14
          rw [ix_m4]
          show W p l e _ s m _ below meth c H locs _ _ _ (F0 m _ ls [.null])
          refine lv_astoreN (lv' := [(4, .null), (3, .int (-4)), (0, .ref (a0)), (1, .int (nI (n))), (2, .int (nI (i_3)))]) hx hb dX4_all_30 hl (by decide) rfl (fun ls hl => ?_)
          refine lv_aloadN hx hb dX4_all_32 (lv_at hl 0 rfl) ?_
          refine lv_ifnonnullN hx hb dX4_all_34 ?_
          refine lv_iload_n hx hb dX4_all_37 rfl (lv_at hl 4 rfl) ?_
          obtain ⟨kk, hkk⟩ : ∃ kk, n = i_3 + kk := ⟨n - i_3, by omega⟩
          have hst := cAll_stop hf_11 kk
          rw [← hkk] at hst
          refine W.widen (k := kc ((call u.2.1 (nI n)).2) - kc u.2.1) (n := ks ((call u.2.1 (nI n)).2) - ks u.2.1) (by first | omega | (dsimp only [wC]; omega)) (by first | omega | (dsimp only [wC]; omega)) ?_
          exact w_iret (v := nI i_3) hF hr hlocks hB ((by rw [hE0, hst.1, hst.2, hiv]; exact ⟨_, rfl, hZ0, hK0, rfl⟩)) dX4_all_38
        · try rw [show cFirst (ph, (cAll u.2.1 i_3), u.2.2).2.1 = some k_12 from hf_11]
          have hkf : k_12 < gN (cAll u.2.1 i_3) 3 2 0 := (firstN_is hf_11).1
          show W p l e _ s m _ below meth c H locs _ _ _ (F0 m _ ls [.int (nI (k_12))])
          refine lv_istore_n (lv' := [(3, .int (nI (k_12))), (0, .ref (a0)), (1, .int (nI (n))), (2, .int (nI (i_3)))]) hx hb dX4_all_24 rfl hl (by decide) rfl (fun ls hl => ?_)
          refine lv_aload_n hx hb dX4_all_25 rfl (lv_at hl 1 rfl) ?_
          refine lv_iload_n hx hb dX4_all_26 rfl (lv_at hl 0 rfl) ?_
          refine w_cq (r_V (As := [.int (nI (k_12))]) (rest := []) hF hB (c_X4_findMessage l env s0 X (ph, (cAll u.2.1 i_3), u.2.2) (a0) (0) ((hK0.at (by decide) ha0)) (nI k_12) hI_5 hNb_6) cv_X4_findMessage tw_2_201 ⟨rfl, rfl, Nat.le_of_ble_eq_true rfl, Nat.le_of_ble_eq_true rfl⟩ (hB.recv (hK0.at (by decide) ha0) (cn_0 env (ph, (cAll u.2.1 i_3), u.2.2) (0)) rfl) rfl hl.1 rfl (lv_room (by decide)) dX4_all_27 ⟨(by show _ ≤ kc ((call u.2.1 (nI n)).2) - kc u.2.1; first | omega | (dsimp only [wC]; omega)), (by show _ ≤ ks ((call u.2.1 (nI n)).2) - ks u.2.1; first | omega | (dsimp only [wC]; omega))⟩) hB (fun r_16 u_18 H locs hq_17 hB => ?_)
          obtain ⟨rfl, rfl⟩ := hq_17
          rw [ix_nI (by have := hNb_6 3 2 0; show gN (cAll u.2.1 i_3) 3 2 0 < _; omega) (show k_12 < gN (ph, (cAll u.2.1 i_3), u.2.2).2.1 3 2 0 from hkf)]
          show W p l e _ s m _ below meth c H locs _ _ _ (F0 m _ ls [.ref (sA (ph, (cAll u.2.1 i_3), u.2.2) 14 (gN (cAll u.2.1 i_3) 31 (0) (k_12)))])
          refine lv_astore (lv' := [(4, .ref (sA (ph, (cAll u.2.1 i_3), u.2.2) 14 (gN (cAll u.2.1 i_3) 31 (0) (k_12)))), (3, .int (nI (k_12))), (0, .ref (a0)), (1, .int (nI (n))), (2, .int (nI (i_3)))]) hx hb dX4_all_30 hl (by decide) rfl (fun ls hl => ?_)
          refine lv_aload hx hb dX4_all_32 (lv_at hl 0 rfl) ?_
          refine lv_ifnonnull (tgt := 39) hx hb dX4_all_34 (by decide) ?_
          refine lv_aload_n hx hb dX4_all_39 rfl (lv_at hl 2 rfl) ?_
          refine w_get (v := .ref (sA (ph, (cAll u.2.1 i_3), u.2.2) 2 (2))) (fk := 5) hF hB (hK0.at (by decide) ha0) (cn_0 env (ph, (cAll u.2.1 i_3), u.2.2) (0)) rfl in_X4 (by decide) tw_1_86 rfl rfl dX4_all_40 ?_
          refine lv_iload_n hx hb dX4_all_43 rfl (lv_at hl 1 rfl) ?_
          refine w_cq (r_V (As := [.int (nI (k_12))]) (rest := []) hF hB (c_Jx4a65c_remove_915e3 l env s0 X (ph, (cAll u.2.1 i_3), u.2.2) (sA (ph, (cAll u.2.1 i_3), u.2.2) 2 (2)) (2) (⟨(hI_5.k2 (by decide)), rfl⟩) (k_12) (hI_5.get (by decide) hkf).1 hkf (hI_5.get (by decide) hkf).2.1 (hI_5.get (by decide) hkf).2.2 (hI_5.objs (by decide)) hNb_6) cv_Jx4a65c_remove_915e3 tw_2_213 ⟨rfl, rfl, Nat.le_of_ble_eq_true rfl, Nat.le_of_ble_eq_true rfl⟩ (hB.recv ⟨(hI_5.k2 (by decide)), rfl⟩ (cn_2 env (ph, (cAll u.2.1 i_3), u.2.2) (2)) rfl) rfl hl.1 rfl (lv_room (by decide)) dX4_all_44 ⟨(by show _ ≤ kc ((call u.2.1 (nI n)).2) - kc u.2.1; first | omega | (dsimp only [wC]; omega)), (by show _ ≤ ks ((call u.2.1 (nI n)).2) - ks u.2.1; first | omega | (dsimp only [wC]; omega))⟩) hB (fun r_19 u_21 H locs hq_20 hB => ?_)
          obtain ⟨rfl, rfl⟩ := hq_20
          rw [hI_5.e2 hkf]
          obtain ⟨phr, hBr, hZr, hKr⟩ := SZ.rem'  (j := k_12) hZ0 hkf
          replace hB := hBr _ _ _ _ _ hB
          obtain ⟨TR, hTR⟩ : ∃ T, T = cRem (cAll u.2.1 i_3) k_12 := ⟨_, rfl⟩
          rw [← hTR] at hB hZr hKr
          replace hKr : Kp (ph, (cAll u.2.1 i_3), u.2.2) (phr, TR, u.2.2) := hKr
          have hIr : SI env (phr, TR, u.2.2) := hZr.1
          have hNbr : Nb TR := by rw [hTR]; exact nb_rem hNb_6
          have hKpr : Kp u (phr, TR, u.2.2) := Kp.tr hK0 hKr
          have hokr : Okc TR := by rw [hTR]; exact Okc.rem (hok i_3) _
          have hkr := kc_rem (cAll u.2.1 i_3) k_12
          rw [← hTR] at hkr
          have hm := hIr.ms (hKr _ _ (by decide) (hI_5.k14 hkf)).1
          have hm22 := hm.1
          have hm23 := hm.2.1
          have hm24 := hm.2.2
          have hm26 := (hIr.tx (hIr.k8 hm24)).2
          have hn4r := hIr.nst
          have hn2r := hIr.ntx
          have hES : cAll u.2.1 (i_3 + 1) = cRecv TR (gN (cAll u.2.1 i_3) 31 (0) (k_12)) := by rw [cAll_s, cAllS_some hf_11, hTR]; rfl
          have hkE : kc (cRecv TR (gN (cAll u.2.1 i_3) 31 (0) (k_12))) = kc (cAll u.2.1 (i_3 + 1)) ∧ ks (cRecv TR (gN (cAll u.2.1 i_3) 31 (0) (k_12))) = ks (cAll u.2.1 (i_3 + 1)) := by rw [hES]; exact ⟨rfl, rfl⟩
          have hkM := kc_recv TR (gN (cAll u.2.1 i_3) 31 (0) (k_12)) hm26 hm23
          have hk3 := hmo (i_3 + 1) n (by omega)
          show W p l e _ s m _ below meth c H locs _ _ _ (F0 m _ ls [.ref (sA (ph, (cAll u.2.1 i_3), u.2.2) 14 (gN (cAll u.2.1 i_3) 31 (0) (k_12)))])
          refine lv_pop hx hb dX4_all_47 rfl ?_
          refine lv_aload_n hx hb dX4_all_48 rfl (lv_at hl 2 rfl) ?_
          refine lv_aload hx hb dX4_all_49 (lv_at hl 0 rfl) ?_
          refine w_cv (r_V (As := [.ref (sA (ph, (cAll u.2.1 i_3), u.2.2) 14 (gN (cAll u.2.1 i_3) 31 (0) (k_12)))]) (rest := []) hF hB (c_X4_receive l env s0 X (phr, TR, u.2.2) (a0) (0) ((hKr.at (by decide) (hK0.at (by decide) ha0))) (sA (ph, (cAll u.2.1 i_3), u.2.2) 14 (gN (cAll u.2.1 i_3) 31 (0) (k_12))) (gN (cAll u.2.1 i_3) 31 (0) (k_12)) ((hKr.at (by decide) ⟨(hI_5.k14 hkf), rfl⟩)) hZr hNbr hokr) cv_X4_receive tw_2_222 ⟨rfl, rfl, Nat.le_of_ble_eq_true rfl, Nat.le_of_ble_eq_true rfl⟩ (hB.recv (hKr.at (by decide) (hK0.at (by decide) ha0)) (cn_0 env (phr, TR, u.2.2) (0)) rfl) rfl hl.1 rfl (lv_room (by decide)) dX4_all_51 ⟨(by show _ ≤ kc ((call u.2.1 (nI n)).2) - kc u.2.1; first | omega | (dsimp only [wC]; omega)), (by show _ ≤ ks ((call u.2.1 (nI n)).2) - ks u.2.1; first | omega | (dsimp only [wC]; omega))⟩) hB (fun u_24 H locs hq_23 hB => ?_)
          obtain ⟨ph_25, rfl, hZ_26, hK_27⟩ := hq_23
          replace hB : Bd env s0 X (ph_25, (cRecv TR (gN (cAll u.2.1 i_3) 31 (0) (k_12))), u.2.2) s H locs := hB
          replace hZ_26 : SZ env (ph_25, (cRecv TR (gN (cAll u.2.1 i_3) 31 (0) (k_12))), u.2.2) := hZ_26
          replace hK_27 : Kp (phr, TR, u.2.2) (ph_25, (cRecv TR (gN (cAll u.2.1 i_3) 31 (0) (k_12))), u.2.2) := hK_27
          obtain ⟨T_28, hT_28⟩ : ∃ T, T = (cRecv TR (gN (cAll u.2.1 i_3) 31 (0) (k_12))) := ⟨_, rfl⟩
          rw [← hT_28] at hB hZ_26 hK_27
          have hI_29 : SI env (ph_25, T_28, u.2.2) := hZ_26.1
          have hNb_30 : Nb T_28 := by rw [hT_28]; exact Nb.recv hNbr hokr hm22 hm23 (Nat.lt_of_lt_of_le hm24 (Nat.le_trans hn2r (by decide))) hm26 hn4r
          have hKp_31 : Kp u (ph_25, T_28, u.2.2) := Kp.tr hKpr hK_27
          have hEF : cAll u.2.1 (i_3 + 1) = T_28 := by rw [hES, hT_28]
          have hkF : kc T_28 = kc (cAll u.2.1 (i_3 + 1)) ∧ ks T_28 = ks (cAll u.2.1 (i_3 + 1)) := by rw [hEF]; exact ⟨rfl, rfl⟩
          show W p l e _ s m _ below meth c H locs _ _ _ (F0 m _ ls [])
          refine lv_iinc (v := nI (i_3 + 1)) (lv' := [(2, .int (nI (i_3 + 1))), (4, .ref (sA (ph, (cAll u.2.1 i_3), u.2.2) 14 (gN (cAll u.2.1 i_3) 31 (0) (k_12)))), (3, .int (nI (k_12))), (0, .ref (a0)), (1, .int (nI (n)))]) hx hb dX4_all_54 hl (k := 4) rfl (nI_add _ _) (by decide) rfl (fun ls hl => ?_)
          refine lv_goto (tgt := 15) hx hb dX4_all_57 (by decide) ?_
          have em_32 : (cAll u.2.1 ((i_3 + 1))) = T_28 := hEF
          exact ih15 (H, locs, ls, ph_25, _, _) (by omega) ⟨⟨(by rw [em_32]; exact hB), (by rw [em_32]; exact hZ_26), (by rw [em_32]; exact hKp_31), (by rw [em_32] <;> first | omega | (dsimp only [wC]; omega)), (by rw [em_32] <;> first | omega | (dsimp only [wC]; omega)), (by rw [cAllK_s, hiv, hf_11]; rfl)⟩, by exact lv_sub hl [3, 4, 0] rfl⟩
    · refine lv_iconst (v := -1) hx hb dX4_all_11 (by decide) ?_
      refine W.widen (k := kc ((call u.2.1 v1).2) - kc u.2.1) (n := ks ((call u.2.1 v1).2) - ks u.2.1) (by first | omega | (dsimp only [wC]; omega)) (by first | omega | (dsimp only [wC]; omega)) ?_
      exact w_iret (v := -1) hF hr hlocks hB ((by rw [show call u.2.1 v1 = (-1, u.2.1) from by unfold call; rw [ix_501 c_2]]; exact ⟨u.1, rfl, hZ, Kp.rf u, rfl⟩)) dX4_all_12

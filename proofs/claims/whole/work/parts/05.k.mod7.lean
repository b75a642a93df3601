set_option maxHeartbeats 4000000 in
set_option maxRecDepth 100000 in
theorem c_X5_commit (l : Launch) (env : Ev) (s0 : Nat) (X : va_W) (u : St) (a0 : Nat) (_xa0 : Nat) (ha0 : At u 20 (0) a0) (v1 : Int32) (hM : MI u) (hV : MV u.2.2) (hNm : Nb u.2.2) (h68 : ∀ j, gN u.2.2 68 0 j < 1000) (h62 : ∀ j, gN u.2.2 62 0 j < 1000) (hm : gN u.2.2 72 0 0 + 4 ≤ 2400) (hcm : ∀ t, t < gN u.2.2 55 0 0 → gN u.2.2 57 0 t = 0 → gN u.2.2 70 0 (gN u.2.2 56 0 t) < 150) : Met l yX5_commit [Cond.code yX5_commit cX5_commit 6 (some .int)] { frames := 3, cells := 0, slots := 0, locals := 72 } (va_Pc [.ref (a0), .int (v1)] (Pr env s0 X u)) (va_Qi (fun r u' => u' = wM u ((mcommit u.2.2 v1).2) ∧ r = (mcommit u.2.2 v1).1) (Po env s0 X) (fun q => s0 ≤ q)) 0 0 (fun q => s0 ≤ q) := by
  refine Met.ofW (cc := cX5_commit) (maxL := 6) (ret := (some .int)) (by decide) rfl ?_
  intro p e s m args below meth c s₁ B hml hv
  obtain ⟨rfl, hv⟩ := hv
  have hx := B.exec
  have hb := B.bytes
  have hr := B.returns
  have hts : ∀ ww ∈ TT, ww.before #[.ref (a0), .int (v1)] s = true := fun ww hw => hv.2.1 ww hw _
  have hown : s.vm.findClass RX5 = some m.cls := findClass_of_methodNamed B.named
  have hlocks := B.notSynchronized
  have hF : CallFix p m c cX5_commit 6 s #[.ref (a0), .int (v1)] TT RX5 := ⟨hx, hb, hml, hown, hts⟩
  have hB := Bd.entry hv
  have hl := lv_entry ([.ref (a0), .int (v1)]) (n := 6) (Nat.le_of_ble_eq_true rfl)
  rw [lg_entry_eq]
  generalize (lg_sl ([.ref (a0), .int (v1)]) ++ List.replicate (6 - (lg_sl ([.ref (a0), .int (v1)])).length) Slot.unset).toArray = ls at hl ⊢
  have hl : lv_has ls 6 [(0, .ref (a0)), (1, .int (v1))] := hl
  have hn1 := hV.nth
  have hn2 := hV.ntx
  have hn3 := hV.nst
  have hn4 := hV.nms
  refine lv_aload_n hx hb dX5_commit_0 rfl (lv_at hl 0 rfl) ?_
  refine lv_iload_n hx hb dX5_commit_1 rfl (lv_at hl 1 rfl) ?_
  refine w_ci (r_V (As := [.int (v1)]) (rest := []) hF hB (c_X5_is l env s0 X u (a0) (0) (ha0) (v1) hM hNm) cv_X5_is tw_3_202 ⟨rfl, rfl, by decide, by decide⟩ (hB.recv ha0 (cn_20 env u (0)) rfl) rfl hl.1 rfl (lv_room (by decide)) dX5_commit_2 ⟨Nat.le_of_ble_eq_true rfl, Nat.le_of_ble_eq_true rfl⟩) hB (fun r_1 u_3 H locs hq_2 hB => ?_)
  obtain ⟨rfl, rfl⟩ := hq_2
  refine w_ifne_b (tgt := 10) hx hb dX5_commit_5 (by decide) (fun c_4 => ?_) (fun c_4 => ?_)
  · obtain ⟨j_5, hj_6⟩ := Option.isSome_iff_exists.mp c_4
    obtain ⟨hjl_7, rfl⟩ := ix_some (by have := hNm 55 0 0; omega) hj_6
    refine lv_aload_n hx hb dX5_commit_10 rfl (lv_at hl 0 rfl) ?_
    refine w_get (v := .ref (sA u 28 0)) (fk := 7) hF hB ha0 (cn_20 env u (0)) rfl in_X5 (by decide) tw_3_102 rfl rfl dX5_commit_11 ?_
    refine lv_iload_n hx hb dX5_commit_14 rfl (lv_at hl 1 rfl) ?_
    refine w_iald (v := .int (nI (gN u.2.2 57 (0) (j_5)))) hF hB ⟨hM 28 (by decide), rfl⟩ (cn_28 env u (0)) (by omega) rfl (by decide) dX5_commit_15 ?_
    refine w_ifeq_n (tgt := 22) (by have := hNm 57 (0) (j_5); omega) hx hb dX5_commit_16 (by decide) (fun c_8 => ?_) (fun c_8 => ?_)
    · refine lv_aload_n hx hb dX5_commit_22 rfl (lv_at hl 0 rfl) ?_
      refine w_get (v := .ref (sA u 27 0)) (fk := 6) hF hB ha0 (cn_20 env u (0)) rfl in_X5 (by decide) tw_3_101 rfl rfl dX5_commit_23 ?_
      refine lv_iload_n hx hb dX5_commit_26 rfl (lv_at hl 1 rfl) ?_
      refine w_iald (v := .int (nI (gN u.2.2 56 (0) (j_5)))) hF hB ⟨hM 27 (by decide), rfl⟩ (cn_27 env u (0)) (by omega) rfl (by decide) dX5_commit_27 ?_
      refine lv_istore_n (lv' := [(2, .int (nI (gN u.2.2 56 (0) (j_5)))), (0, .ref (a0)), (1, .int (nI (j_5)))]) hx hb dX5_commit_28 rfl hl (by decide) rfl (fun ls hl => ?_)
      refine lv_aload_n hx hb dX5_commit_29 rfl (lv_at hl 1 rfl) ?_
      refine lv_iload_n hx hb dX5_commit_30 rfl (lv_at hl 2 rfl) ?_
      refine w_ci (r_V (As := [.int (nI (j_5))]) (rest := []) hF hB (c_X5_plain l env s0 X u (a0) (0) (ha0) (j_5) hM hV hNm (by omega)) cv_X5_plain tw_3_234 ⟨rfl, rfl, by decide, by decide⟩ (hB.recv ha0 (cn_20 env u (0)) rfl) rfl hl.1 rfl (lv_room (by decide)) dX5_commit_31 ⟨Nat.le_of_ble_eq_true rfl, Nat.le_of_ble_eq_true rfl⟩) hB (fun r_9 u_11 H locs hq_10 hB => ?_)
      obtain ⟨rfl, rfl⟩ := hq_10
      refine w_ifle_n (tgt := 41) (by have : mPlain u.2.2 (j_5) ≤ gN u.2.2 52 0 0 := cntN_le _ _; omega) hx hb dX5_commit_34 (by decide) (fun c_12 => ?_) (fun c_12 => ?_)
      · refine lv_iconst (v := nI 0) hx hb dX5_commit_41 (by decide) ?_
        refine lv_istore_n (lv' := [(3, .int (nI (0))), (2, .int (nI (gN u.2.2 56 (0) (j_5)))), (0, .ref (a0)), (1, .int (nI (j_5)))]) hx hb dX5_commit_42 rfl hl (by decide) rfl (fun ls hl => ?_)
        refine lv_iconst (v := nI 0) hx hb dX5_commit_43 (by decide) ?_
        refine lv_istore (lv' := [(4, .int (nI (0))), (3, .int (nI (0))), (2, .int (nI (gN u.2.2 56 (0) (j_5)))), (0, .ref (a0)), (1, .int (nI (j_5)))]) hx hb dX5_commit_44 hl (by decide) rfl (fun ls hl => ?_)
        refine lv_iconst (v := nI 0) hx hb dX5_commit_46 (by decide) ?_
        refine lv_istore (lv' := [(5, .int (nI (0))), (4, .int (nI (0))), (3, .int (nI (0))), (2, .int (nI (gN u.2.2 56 (0) (j_5)))), (0, .ref (a0)), (1, .int (nI (j_5)))]) hx hb dX5_commit_47 hl (by decide) rfl (fun ls hl => ?_)
        have ea_14 : (decide (0 < mPlain u.2.2 j_5) || anyN (mAddQ u.2.2 j_5) (0)) = false := by simp [allN_0, anyN_0, sumL_0, mAddQ, mAwayQ, hj_6, c_8, c_12] <;> omega
        have ea_15 : anyN (mAwayQ u.2.2 j_5 (gN u.2.2 56 0 j_5)) (0) = false := by simp [allN_0, anyN_0, sumL_0, mAddQ, mAwayQ, hj_6, c_8, c_12] <;> omega
        refine wloopH (σ := Heap × List Loc × Array Slot) (G := fun x => W p l e _ s m _ below meth c x.1 x.2.1 _ _ _ (F0 m 49 x.2.2 [])) (P := fun i_13 x => (True) ∧ Bd env s0 X u s x.1 x.2.1 ∧ lv_has x.2.2 6 [(0, .ref (a0)), (1, .int (nI (j_5))), (2, .int (nI (gN u.2.2 56 (0) (j_5)))), (3, .int (b2i ((decide (0 < mPlain u.2.2 j_5) || anyN (mAddQ u.2.2 j_5) (i_13))))), (4, .int (b2i (anyN (mAwayQ u.2.2 j_5 (gN u.2.2 56 0 j_5)) (i_13)))), (5, .int (nI (i_13)))]) (N := gN u.2.2 52 0 0) ?_ 0 (_, _, ls) (Nat.zero_le _) ⟨trivial, hB, by show lv_has ls 6 [(0, .ref (a0)), (1, .int (nI (j_5))), (2, .int (nI (gN u.2.2 56 (0) (j_5)))), (3, .int (b2i ((decide (0 < mPlain u.2.2 j_5) || anyN (mAddQ u.2.2 j_5) (0))))), (4, .int (b2i (anyN (mAwayQ u.2.2 j_5 (gN u.2.2 56 0 j_5)) (0)))), (5, .int (nI (0)))]; rw [ea_14, ea_15]; exact lv_sub hl [4, 5, 3, 2, 1, 0] rfl⟩
        rintro i_13 ⟨H, locs, ls⟩ hi_16 ⟨hv_17, hB, hl⟩ ih49
        replace hB : Bd env s0 X u s H locs := hB
        replace hl : lv_has ls 6 [(0, .ref (a0)), (1, .int (nI (j_5))), (2, .int (nI (gN u.2.2 56 (0) (j_5)))), (3, .int (b2i ((decide (0 < mPlain u.2.2 j_5) || anyN (mAddQ u.2.2 j_5) (i_13))))), (4, .int (b2i (anyN (mAwayQ u.2.2 j_5 (gN u.2.2 56 0 j_5)) (i_13)))), (5, .int (nI (i_13)))] := hl
        show W p l e _ s m _ below meth c H locs _ _ _ (F0 m 49 ls [])
        have := hNm 52 0 0
        have := hV.nth
        refine lv_iload hx hb dX5_commit_49 (lv_at hl 5 rfl) ?_
        refine lv_aload_n hx hb dX5_commit_51 rfl (lv_at hl 0 rfl) ?_
        refine w_get (v := .int (nI (gN u.2.2 52 (0) (0)))) (fk := 2) hF hB ha0 (cn_20 env u (0)) rfl in_X5 (by decide) tw_3_97 rfl rfl dX5_commit_52 ?_
        refine w_icge_n (tgt := 127) (by omega) (by have := hNm 52 (0) (0); omega) hx hb dX5_commit_55 (by decide) (fun c_18 => ?_) (fun c_18 => ?_)
        · obtain rfl : i_13 = gN u.2.2 52 0 0 := by omega
          replace hl : lv_has ls 6 [(0, .ref (a0)), (1, .int (nI (j_5))), (2, .int (nI (gN u.2.2 56 (0) (j_5)))), (3, .int (b2i (mAny u.2.2 j_5))), (4, .int (b2i (mAway u.2.2 j_5))), (5, .int (nI (gN u.2.2 52 0 0)))] := hl
          refine lv_iload_n hx hb dX5_commit_127 rfl (lv_at hl 3 rfl) ?_
          refine w_ifne_b (tgt := 141) hx hb dX5_commit_128 (by decide) (fun c_19 => ?_) (fun c_19 => ?_)
          · refine lv_aload_n hx hb dX5_commit_141 rfl (lv_at hl 0 rfl) ?_
            refine lv_iload_n hx hb dX5_commit_142 rfl (lv_at hl 1 rfl) ?_
            refine lv_iload_n hx hb dX5_commit_143 rfl (lv_at hl 2 rfl) ?_
            refine w_ci (r_V (As := [.int (nI (j_5)), .int (nI (gN u.2.2 56 (0) (j_5)))]) (rest := []) hF hB (c_X5_areFree l env s0 X u (a0) (0) (ha0) (j_5) (gN u.2.2 56 (0) (j_5)) hM hV hNm (by omega) (hV.site _)) cv_X5_areFree tw_4_6 ⟨rfl, rfl, by decide, by decide⟩ (hB.recv ha0 (cn_20 env u (0)) rfl) rfl hl.1 rfl (lv_room (by decide)) dX5_commit_144 ⟨Nat.le_of_ble_eq_true rfl, Nat.le_of_ble_eq_true rfl⟩) hB (fun r_20 u_22 H locs hq_21 hB => ?_)
            obtain ⟨rfl, rfl⟩ := hq_21
            refine w_ifne_b (tgt := 160) hx hb dX5_commit_147 (by decide) (fun c_23 => ?_) (fun c_23 => ?_)
            · refine lv_iload hx hb dX5_commit_160 (lv_at hl 4 rfl) ?_
              refine w_ifne_b (tgt := 173) hx hb dX5_commit_162 (by decide) (fun c_24 => ?_) (fun c_24 => ?_)
              · refine lv_aload_n hx hb dX5_commit_173 rfl (lv_at hl 0 rfl) ?_
                refine lv_iload_n hx hb dX5_commit_174 rfl (lv_at hl 1 rfl) ?_
                refine lv_iload_n hx hb dX5_commit_175 rfl (lv_at hl 2 rfl) ?_
                refine w_cv (r_V (As := [.int (nI (j_5)), .int (nI (gN u.2.2 56 (0) (j_5)))]) (rest := []) hF hB (c_X5_lock l env s0 X u (a0) (0) (ha0) (j_5) (gN u.2.2 56 (0) (j_5)) hM hV hNm (by omega) (hV.site _)) cv_X5_lock tw_4_30 ⟨rfl, rfl, by decide, by decide⟩ (hB.recv ha0 (cn_20 env u (0)) rfl) rfl hl.1 rfl (lv_room (by decide)) dX5_commit_176 ⟨Nat.le_of_ble_eq_true rfl, Nat.le_of_ble_eq_true rfl⟩) hB (fun u_27 H locs hq_26 hB => ?_)
                obtain rfl := hq_26
                replace hB : Bd env s0 X (wM u (mLock u.2.2 (j_5) (gN u.2.2 56 (0) (j_5)) (gN u.2.2 52 0 0))) s H locs := hB
                have hV_28 : MV (mLock u.2.2 (j_5) (gN u.2.2 56 (0) (j_5)) (gN u.2.2 52 0 0)) := MV.ofN (mLock_N _ _ _ _) hV
                have hNm_29 : Nb (mLock u.2.2 (j_5) (gN u.2.2 56 (0) (j_5)) (gN u.2.2 52 0 0)) := Nb.ofN (mLock_N _ _ _ _) hNm
                refine lv_aload_n hx hb dX5_commit_179 rfl (lv_at hl 0 rfl) ?_
                refine w_get (v := .ref (sA u 28 0)) (fk := 7) hF hB ha0 (cn_20 env (wM u (mLock u.2.2 (j_5) (gN u.2.2 56 (0) (j_5)) (gN u.2.2 52 0 0))) (0)) rfl in_X5 (by decide) tw_3_102 rfl rfl dX5_commit_180 ?_
                refine lv_iload_n hx hb dX5_commit_183 rfl (lv_at hl 1 rfl) ?_
                refine lv_iconst (v := nI 1) hx hb dX5_commit_184 (by decide) ?_
                refine w_iast (x := nI (1)) hF hB ⟨hM 28 (by decide), rfl⟩ (wM u (uN (mLock u.2.2 (j_5) (gN u.2.2 56 (0) (j_5)) (gN u.2.2 52 0 0)) 57 (0) (j_5) (1))) (cn_28 env (wM u (mLock u.2.2 (j_5) (gN u.2.2 56 (0) (j_5)) (gN u.2.2 52 0 0))) (0)) (by omega) (by decide) rfl rfl (cu_N57 env (wM u (mLock u.2.2 (j_5) (gN u.2.2 56 (0) (j_5)) (gN u.2.2 52 0 0))) (0) (j_5) (1)) dX5_commit_185 (fun H locs hB => ?_)
                refine lv_iconst (v := nI 0) hx hb dX5_commit_186 (by decide) ?_
                refine lv_istore (lv' := [(5, .int (nI (0))), (0, .ref (a0)), (1, .int (nI (j_5))), (2, .int (nI (gN u.2.2 56 (0) (j_5)))), (3, .int (b2i (mAny u.2.2 j_5))), (4, .int (b2i (mAway u.2.2 j_5)))]) hx hb dX5_commit_187 hl (by decide) rfl (fun ls hl => ?_)
                replace hB : Bd env s0 X (wM u (uN (mLock u.2.2 j_5 (gN u.2.2 56 0 j_5) (gN u.2.2 52 0 0)) 57 0 j_5 1)) s H locs := hB
                have hV_30 : MV (uN (mLock u.2.2 j_5 (gN u.2.2 56 0 j_5) (gN u.2.2 52 0 0)) 57 0 j_5 1) := (show MV (mLock u.2.2 j_5 (gN u.2.2 56 0 j_5) (gN u.2.2 52 0 0)) from MV.ofN (mLock_N _ _ _ _) hV)
                have hNm_31 : Nb (uN (mLock u.2.2 j_5 (gN u.2.2 56 0 j_5) (gN u.2.2 52 0 0)) 57 0 j_5 1) := Nb.uN (Nb.ofN (mLock_N _ _ _ _) hNm) (by decide)
                refine wloopH (σ := Heap × List Loc × Array Slot) (G := fun x => W p l e _ s m _ below meth c x.1 x.2.1 _ _ _ (F0 m 189 x.2.2 [])) (P := fun i_32 x => (True) ∧ Bd env s0 X (wM u (mAskL (uN (mLock u.2.2 j_5 (gN u.2.2 56 0 j_5) (gN u.2.2 52 0 0)) 57 0 j_5 1) (gN u.2.2 56 0 j_5) j_5 i_32)) s x.1 x.2.1 ∧ lv_has x.2.2 6 [(0, .ref (a0)), (1, .int (nI (j_5))), (2, .int (nI (gN u.2.2 56 (0) (j_5)))), (5, .int (nI (i_32)))]) (N := gN u.2.2 50 0 0) ?_ 0 (_, _, ls) (Nat.zero_le _) ⟨trivial, hB, lv_sub hl [1, 2, 3, 0] rfl⟩
                rintro i_32 ⟨H, locs, ls⟩ hi_33 ⟨hv_34, hB, hl⟩ ih189
                replace hB : Bd env s0 X (wM u (mAskL (uN (mLock u.2.2 j_5 (gN u.2.2 56 0 j_5) (gN u.2.2 52 0 0)) 57 0 j_5 1) (gN u.2.2 56 0 j_5) j_5 i_32)) s H locs := hB
                replace hl : lv_has ls 6 [(0, .ref (a0)), (1, .int (nI (j_5))), (2, .int (nI (gN u.2.2 56 (0) (j_5)))), (5, .int (nI (i_32)))] := hl
                show W p l e _ s m _ below meth c H locs _ _ _ (F0 m 189 ls [])
                have := hNm 50 0 0
                have := hV.nst
                have hV_35 : MV (mAskL (uN (mLock u.2.2 j_5 (gN u.2.2 56 0 j_5) (gN u.2.2 52 0 0)) 57 0 j_5 1) (gN u.2.2 56 0 j_5) j_5 i_32) := mAskL_V hV_30 (hV.site _) (by omega) (by show gN (mLock u.2.2 j_5 (gN u.2.2 56 0 j_5) (gN u.2.2 52 0 0)) 72 0 0 + 4 ≤ 2400; rw [mLock_N]; exact hm) _ (by omega)
                have hNm_36 : Nb (mAskL (uN (mLock u.2.2 j_5 (gN u.2.2 56 0 j_5) (gN u.2.2 52 0 0)) 57 0 j_5 1) (gN u.2.2 56 0 j_5) j_5 i_32) := mAskL_Nb hNm_31 (hV.site _) (by omega) (by show gN (mLock u.2.2 j_5 (gN u.2.2 56 0 j_5) (gN u.2.2 52 0 0)) 72 0 0 + 4 ≤ 2400; rw [mLock_N]; exact hm) (by show gN (mLock u.2.2 j_5 (gN u.2.2 56 0 j_5) (gN u.2.2 52 0 0)) 62 0 _ < 1000; rw [mLock_N]; exact h62 _) _ (by omega)
                refine lv_iload hx hb dX5_commit_189 (lv_at hl 3 rfl) ?_
                refine lv_aload_n hx hb dX5_commit_191 rfl (lv_at hl 0 rfl) ?_
                refine w_get (v := .int (nI (gN (mAskL (uN (mLock u.2.2 j_5 (gN u.2.2 56 0 j_5) (gN u.2.2 52 0 0)) 57 0 j_5 1) (gN u.2.2 56 0 j_5) j_5 i_32) 50 (0) (0)))) (fk := 0) hF hB ha0 (cn_20 env (wM u (mAskL (uN (mLock u.2.2 j_5 (gN u.2.2 56 0 j_5) (gN u.2.2 52 0 0)) 57 0 j_5 1) (gN u.2.2 56 0 j_5) j_5 i_32)) (0)) rfl in_X5 (by decide) tw_3_95 rfl rfl dX5_commit_192 ?_
                refine w_icge_n (tgt := 239) (by omega) (by have := hNm_36 50 (0) (0); have := hNm 56 0 j_5; have := hNm 52 0 0; omega) hx hb dX5_commit_195 (by decide) (fun c_37 => ?_) (fun c_37 => ?_)
                · rw [mAskL_f _ _ _ (by decide) (by decide), show gN (uN (mLock u.2.2 j_5 (gN u.2.2 56 0 j_5) (gN u.2.2 52 0 0)) 57 0 j_5 1) 50 = gN (mLock u.2.2 j_5 (gN u.2.2 56 0 j_5) (gN u.2.2 52 0 0)) 50 from rfl, mLock_N] at c_37
                  refine lv_aload_n hx hb dX5_commit_239 rfl (lv_at hl 0 rfl) ?_
                  refine w_get (v := .ref (sA u 28 0)) (fk := 7) hF hB ha0 (cn_20 env (wM u (mAskL (uN (mLock u.2.2 j_5 (gN u.2.2 56 0 j_5) (gN u.2.2 52 0 0)) 57 0 j_5 1) (gN u.2.2 56 0 j_5) j_5 i_32)) (0)) rfl in_X5 (by decide) tw_3_102 rfl rfl dX5_commit_240 ?_
                  refine lv_iload_n hx hb dX5_commit_243 rfl (lv_at hl 1 rfl) ?_
                  refine w_iald (v := .int (nI (gN (mAskL (uN (mLock u.2.2 j_5 (gN u.2.2 56 0 j_5) (gN u.2.2 52 0 0)) 57 0 j_5 1) (gN u.2.2 56 0 j_5) j_5 i_32) 57 (0) (j_5)))) hF hB ⟨hM 28 (by decide), rfl⟩ (cn_28 env (wM u (mAskL (uN (mLock u.2.2 j_5 (gN u.2.2 56 0 j_5) (gN u.2.2 52 0 0)) 57 0 j_5 1) (gN u.2.2 56 0 j_5) j_5 i_32)) (0)) (by omega) rfl (by decide) dX5_commit_244 ?_
                  have ec_38 : mCommit u.2.2 j_5 = (mAskL (uN (mLock u.2.2 j_5 (gN u.2.2 56 0 j_5) (gN u.2.2 52 0 0)) 57 0 j_5 1) (gN u.2.2 56 0 j_5) j_5 i_32) := by rw [mCommit, if_neg (by simp [c_19]), if_neg (by simp [c_23]), if_neg (by simp [c_24]), show gN u.2.2 50 0 0 = i_32 by omega]
                  exact w_iret (v := nI (gN (mAskL (uN (mLock u.2.2 j_5 (gN u.2.2 56 0 j_5) (gN u.2.2 52 0 0)) 57 0 j_5 1) (gN u.2.2 56 0 j_5) j_5 i_32) 57 (0) (j_5))) hF hr hlocks hB (⟨by simp only [mcommit, hj_6, if_pos c_8]; rw [ec_38], by simp only [mcommit, hj_6, if_pos c_8]; rw [ec_38]⟩) dX5_commit_245
                · rw [mAskL_f _ _ _ (by decide) (by decide), show gN (uN (mLock u.2.2 j_5 (gN u.2.2 56 0 j_5) (gN u.2.2 52 0 0)) 57 0 j_5 1) 50 = gN (mLock u.2.2 j_5 (gN u.2.2 56 0 j_5) (gN u.2.2 52 0 0)) 50 from rfl, mLock_N] at c_37
                  refine lv_iload hx hb dX5_commit_198 (lv_at hl 3 rfl) ?_
                  refine lv_iload_n hx hb dX5_commit_200 rfl (lv_at hl 2 rfl) ?_
                  refine w_iceq_n (tgt := 233) (by omega) (by have := hNm 56 (0) (j_5); omega) hx hb dX5_commit_201 (by decide) (fun c_39 => ?_) (fun c_39 => ?_)
                  · refine lv_iinc (v := nI (i_32 + 1)) (lv' := [(5, .int (nI (i_32 + 1))), (0, .ref (a0)), (1, .int (nI (j_5))), (2, .int (nI (gN u.2.2 56 (0) (j_5))))]) hx hb dX5_commit_233 hl (k := 3) rfl (nI_add _ _) (by decide) rfl (fun ls hl => ?_)
                    refine lv_goto (tgt := 189) hx hb dX5_commit_236 (by decide) ?_
                    have em_40 : (mAskL (uN (mLock u.2.2 j_5 (gN u.2.2 56 0 j_5) (gN u.2.2 52 0 0)) 57 0 j_5 1) (gN u.2.2 56 0 j_5) j_5 (i_32 + 1)) = (mAskL (uN (mLock u.2.2 j_5 (gN u.2.2 56 0 j_5) (gN u.2.2 52 0 0)) 57 0 j_5 1) (gN u.2.2 56 0 j_5) j_5 i_32) := by rw [mAskL_s, if_neg (fun z => z.1 c_39)]
                    exact ih189 (H, locs, ls) (by omega) ⟨trivial, (by rw [em_40]; exact hB), by exact lv_sub hl [1, 2, 3, 0] rfl⟩
                  · refine lv_aload_n hx hb dX5_commit_204 rfl (lv_at hl 0 rfl) ?_
                    refine lv_iload_n hx hb dX5_commit_205 rfl (lv_at hl 1 rfl) ?_
                    refine lv_iload hx hb dX5_commit_206 (lv_at hl 3 rfl) ?_
                    refine w_ci (r_V (As := [.int (nI (j_5)), .int (nI (i_32))]) (rest := []) hF hB (c_X5_writesAt l env s0 X (wM u (mAskL (uN (mLock u.2.2 j_5 (gN u.2.2 56 0 j_5) (gN u.2.2 52 0 0)) 57 0 j_5 1) (gN u.2.2 56 0 j_5) j_5 i_32)) (a0) (0) (ha0) (j_5) (i_32) hM hV_35 hNm_36 (by omega) (by omega)) cv_X5_writesAt tw_4_34 ⟨rfl, rfl, by decide, by decide⟩ (hB.recv ha0 (cn_20 env (wM u (mAskL (uN (mLock u.2.2 j_5 (gN u.2.2 56 0 j_5) (gN u.2.2 52 0 0)) 57 0 j_5 1) (gN u.2.2 56 0 j_5) j_5 i_32)) (0)) rfl) rfl hl.1 rfl (lv_room (by decide)) dX5_commit_208 ⟨Nat.le_of_ble_eq_true rfl, Nat.le_of_ble_eq_true rfl⟩) hB (fun r_41 u_43 H locs hq_42 hB => ?_)
                    obtain ⟨rfl, rfl⟩ := hq_42
                    show W p l e _ s m _ below meth c H locs _ _ _ (F0 m _ ls [.int (b2i (mWritesAt (mAskL (uN (mLock u.2.2 j_5 (gN u.2.2 56 0 j_5) (gN u.2.2 52 0 0)) 57 0 j_5 1) (gN u.2.2 56 0 j_5) j_5 i_32) (j_5) (i_32)))])
                    refine w_ifeq_b (tgt := 233) hx hb dX5_commit_211 (by decide) (fun c_44 => ?_) (fun c_44 => ?_)
                    · refine lv_iinc (v := nI (i_32 + 1)) (lv' := [(5, .int (nI (i_32 + 1))), (0, .ref (a0)), (1, .int (nI (j_5))), (2, .int (nI (gN u.2.2 56 (0) (j_5))))]) hx hb dX5_commit_233 hl (k := 3) rfl (nI_add _ _) (by decide) rfl (fun ls hl => ?_)
                      refine lv_goto (tgt := 189) hx hb dX5_commit_236 (by decide) ?_
                      have em_45 : (mAskL (uN (mLock u.2.2 j_5 (gN u.2.2 56 0 j_5) (gN u.2.2 52 0 0)) 57 0 j_5 1) (gN u.2.2 56 0 j_5) j_5 (i_32 + 1)) = (mAskL (uN (mLock u.2.2 j_5 (gN u.2.2 56 0 j_5) (gN u.2.2 52 0 0)) 57 0 j_5 1) (gN u.2.2 56 0 j_5) j_5 i_32) := by rw [mAskL_s, if_neg (fun z => by rw [c_44] at z; exact absurd z.2 (by decide))]
                      exact ih189 (H, locs, ls) (by omega) ⟨trivial, (by rw [em_45]; exact hB), by exact lv_sub hl [1, 2, 3, 0] rfl⟩
                    · refine lv_aload_n hx hb dX5_commit_214 rfl (lv_at hl 0 rfl) ?_
                      refine lv_iconst (v := nI 0) hx hb dX5_commit_215 (by decide) ?_
                      refine lv_iload hx hb dX5_commit_216 (lv_at hl 3 rfl) ?_
                      refine lv_iload_n hx hb dX5_commit_218 rfl (lv_at hl 2 rfl) ?_
                      refine lv_iload_n hx hb dX5_commit_219 rfl (lv_at hl 1 rfl) ?_
                      refine w_cv (r_V (As := [.int (nI (0)), .int (nI (i_32)), .int (nI (gN u.2.2 56 (0) (j_5))), .int (nI (j_5))]) (rest := []) hF hB (c_X5_send l env s0 X (wM u (mAskL (uN (mLock u.2.2 j_5 (gN u.2.2 56 0 j_5) (gN u.2.2 52 0 0)) 57 0 j_5 1) (gN u.2.2 56 0 j_5) j_5 i_32)) (a0) (0) (ha0) (0) (i_32) (gN u.2.2 56 (0) (j_5)) (j_5) hM hV_35 hNm_36 (by show gN (mAskL (uN (mLock u.2.2 j_5 (gN u.2.2 56 0 j_5) (gN u.2.2 52 0 0)) 57 0 j_5 1) (gN u.2.2 56 0 j_5) j_5 i_32) 72 0 0 < 2400; have h1 := mAskL_72 (uN (mLock u.2.2 j_5 (gN u.2.2 56 0 j_5) (gN u.2.2 52 0 0)) 57 0 j_5 1) (gN u.2.2 56 0 j_5) j_5 i_32; rw [show gN (uN (mLock u.2.2 j_5 (gN u.2.2 56 0 j_5) (gN u.2.2 52 0 0)) 57 0 j_5 1) 72 = gN (mLock u.2.2 j_5 (gN u.2.2 56 0 j_5) (gN u.2.2 52 0 0)) 72 from rfl, mLock_N] at h1; omega) (by decide) (by omega) (hV.site _) (by omega)) cv_X5_send tw_4_26 ⟨rfl, rfl, by decide, by decide⟩ (hB.recv ha0 (cn_20 env (wM u (mAskL (uN (mLock u.2.2 j_5 (gN u.2.2 56 0 j_5) (gN u.2.2 52 0 0)) 57 0 j_5 1) (gN u.2.2 56 0 j_5) j_5 i_32)) (0)) rfl) rfl hl.1 rfl (lv_room (by decide)) dX5_commit_220 ⟨Nat.le_of_ble_eq_true rfl, Nat.le_of_ble_eq_true rfl⟩) hB (fun u_48 H locs hq_47 hB => ?_)
                      obtain rfl := hq_47
                      replace hB : Bd env s0 X (wM u (mSend ((mAskL (uN (mLock u.2.2 j_5 (gN u.2.2 56 0 j_5) (gN u.2.2 52 0 0)) 57 0 j_5 1) (gN u.2.2 56 0 j_5) j_5 i_32)) (0) (i_32) (gN u.2.2 56 (0) (j_5)) (j_5))) s H locs := hB
                      have hV_49 : MV (mSend ((mAskL (uN (mLock u.2.2 j_5 (gN u.2.2 56 0 j_5) (gN u.2.2 52 0 0)) 57 0 j_5 1) (gN u.2.2 56 0 j_5) j_5 i_32)) (0) (i_32) (gN u.2.2 56 (0) (j_5)) (j_5)) := mSend_V hV_35 (by omega) (hV.site _) (by omega) (by show gN (mAskL (uN (mLock u.2.2 j_5 (gN u.2.2 56 0 j_5) (gN u.2.2 52 0 0)) 57 0 j_5 1) (gN u.2.2 56 0 j_5) j_5 i_32) 72 0 0 < 2400; have h1 := mAskL_72 (uN (mLock u.2.2 j_5 (gN u.2.2 56 0 j_5) (gN u.2.2 52 0 0)) 57 0 j_5 1) (gN u.2.2 56 0 j_5) j_5 i_32; rw [show gN (uN (mLock u.2.2 j_5 (gN u.2.2 56 0 j_5) (gN u.2.2 52 0 0)) 57 0 j_5 1) 72 = gN (mLock u.2.2 j_5 (gN u.2.2 56 0 j_5) (gN u.2.2 52 0 0)) 72 from rfl, mLock_N] at h1; omega)
                      have hNm_50 : Nb (mSend ((mAskL (uN (mLock u.2.2 j_5 (gN u.2.2 56 0 j_5) (gN u.2.2 52 0 0)) 57 0 j_5 1) (gN u.2.2 56 0 j_5) j_5 i_32)) (0) (i_32) (gN u.2.2 56 (0) (j_5)) (j_5)) := mSend_Nb hNm_36 (by decide) (by omega) (hV.site _) (by omega) (by show gN (mAskL (uN (mLock u.2.2 j_5 (gN u.2.2 56 0 j_5) (gN u.2.2 52 0 0)) 57 0 j_5 1) (gN u.2.2 56 0 j_5) j_5 i_32) 72 0 0 < 2400; have h1 := mAskL_72 (uN (mLock u.2.2 j_5 (gN u.2.2 56 0 j_5) (gN u.2.2 52 0 0)) 57 0 j_5 1) (gN u.2.2 56 0 j_5) j_5 i_32; rw [show gN (uN (mLock u.2.2 j_5 (gN u.2.2 56 0 j_5) (gN u.2.2 52 0 0)) 57 0 j_5 1) 72 = gN (mLock u.2.2 j_5 (gN u.2.2 56 0 j_5) (gN u.2.2 52 0 0)) 72 from rfl, mLock_N] at h1; omega)
                      refine lv_aload_n hx hb dX5_commit_223 rfl (lv_at hl 0 rfl) ?_
                      refine w_get (v := .ref (sA u 33 0)) (fk := 12) hF hB ha0 (cn_20 env (wM u (mSend ((mAskL (uN (mLock u.2.2 j_5 (gN u.2.2 56 0 j_5) (gN u.2.2 52 0 0)) 57 0 j_5 1) (gN u.2.2 56 0 j_5) j_5 i_32)) (0) (i_32) (gN u.2.2 56 (0) (j_5)) (j_5))) (0)) rfl in_X5 (by decide) tw_3_107 rfl rfl dX5_commit_224 ?_
                      refine lv_iload_n hx hb dX5_commit_227 rfl (lv_at hl 1 rfl) ?_
                      refine lv_dup2_11 hx hb dX5_commit_228 rfl rfl ?_
                      refine w_iald (v := .int (nI (gN (mSend ((mAskL (uN (mLock u.2.2 j_5 (gN u.2.2 56 0 j_5) (gN u.2.2 52 0 0)) 57 0 j_5 1) (gN u.2.2 56 0 j_5) j_5 i_32)) (0) (i_32) (gN u.2.2 56 (0) (j_5)) (j_5)) 62 (0) (j_5)))) hF hB ⟨hM 33 (by decide), rfl⟩ (cn_33 env (wM u (mSend ((mAskL (uN (mLock u.2.2 j_5 (gN u.2.2 56 0 j_5) (gN u.2.2 52 0 0)) 57 0 j_5 1) (gN u.2.2 56 0 j_5) j_5 i_32)) (0) (i_32) (gN u.2.2 56 (0) (j_5)) (j_5))) (0)) (by omega) rfl (by decide) dX5_commit_229 ?_
                      refine lv_iconst (v := nI 1) hx hb dX5_commit_230 (by decide) ?_
                      refine w_iadd_n hx hb dX5_commit_231 ?_
                      refine w_iast (x := nI ((gN (mSend ((mAskL (uN (mLock u.2.2 j_5 (gN u.2.2 56 0 j_5) (gN u.2.2 52 0 0)) 57 0 j_5 1) (gN u.2.2 56 0 j_5) j_5 i_32)) (0) (i_32) (gN u.2.2 56 (0) (j_5)) (j_5)) 62 (0) (j_5)) + 1)) hF hB ⟨hM 33 (by decide), rfl⟩ (wM u (uN (mSend ((mAskL (uN (mLock u.2.2 j_5 (gN u.2.2 56 0 j_5) (gN u.2.2 52 0 0)) 57 0 j_5 1) (gN u.2.2 56 0 j_5) j_5 i_32)) (0) (i_32) (gN u.2.2 56 (0) (j_5)) (j_5)) 62 (0) (j_5) ((gN (mSend ((mAskL (uN (mLock u.2.2 j_5 (gN u.2.2 56 0 j_5) (gN u.2.2 52 0 0)) 57 0 j_5 1) (gN u.2.2 56 0 j_5) j_5 i_32)) (0) (i_32) (gN u.2.2 56 (0) (j_5)) (j_5)) 62 (0) (j_5)) + 1))) (cn_33 env (wM u (mSend ((mAskL (uN (mLock u.2.2 j_5 (gN u.2.2 56 0 j_5) (gN u.2.2 52 0 0)) 57 0 j_5 1) (gN u.2.2 56 0 j_5) j_5 i_32)) (0) (i_32) (gN u.2.2 56 (0) (j_5)) (j_5))) (0)) (by omega) (by decide) rfl rfl (cu_N62 env (wM u (mSend ((mAskL (uN (mLock u.2.2 j_5 (gN u.2.2 56 0 j_5) (gN u.2.2 52 0 0)) 57 0 j_5 1) (gN u.2.2 56 0 j_5) j_5 i_32)) (0) (i_32) (gN u.2.2 56 (0) (j_5)) (j_5))) (0) (j_5) ((gN (mSend ((mAskL (uN (mLock u.2.2 j_5 (gN u.2.2 56 0 j_5) (gN u.2.2 52 0 0)) 57 0 j_5 1) (gN u.2.2 56 0 j_5) j_5 i_32)) (0) (i_32) (gN u.2.2 56 (0) (j_5)) (j_5)) 62 (0) (j_5)) + 1)) dX5_commit_232 (fun H locs hB => ?_)
                      refine lv_iinc (v := nI (i_32 + 1)) (lv' := [(5, .int (nI (i_32 + 1))), (0, .ref (a0)), (1, .int (nI (j_5))), (2, .int (nI (gN u.2.2 56 (0) (j_5))))]) hx hb dX5_commit_233 hl (k := 3) rfl (nI_add _ _) (by decide) rfl (fun ls hl => ?_)
                      refine lv_goto (tgt := 189) hx hb dX5_commit_236 (by decide) ?_
                      have em_51 : (mAskL (uN (mLock u.2.2 j_5 (gN u.2.2 56 0 j_5) (gN u.2.2 52 0 0)) 57 0 j_5 1) (gN u.2.2 56 0 j_5) j_5 (i_32 + 1)) = (uN (mSend ((mAskL (uN (mLock u.2.2 j_5 (gN u.2.2 56 0 j_5) (gN u.2.2 52 0 0)) 57 0 j_5 1) (gN u.2.2 56 0 j_5) j_5 i_32)) (0) (i_32) (gN u.2.2 56 (0) (j_5)) (j_5)) 62 (0) (j_5) ((gN (mSend ((mAskL (uN (mLock u.2.2 j_5 (gN u.2.2 56 0 j_5) (gN u.2.2 52 0 0)) 57 0 j_5 1) (gN u.2.2 56 0 j_5) j_5 i_32)) (0) (i_32) (gN u.2.2 56 (0) (j_5)) (j_5)) 62 (0) (j_5)) + 1)) := by rw [mAskL_s, if_pos ⟨c_39, c_44⟩]
                      exact ih189 (H, locs, ls) (by omega) ⟨trivial, (by rw [em_51]; exact hB), by exact lv_sub hl [1, 2, 3, 0] rfl⟩
              · refine lv_aload_n hx hb dX5_commit_165 rfl (lv_at hl 0 rfl) ?_
                refine lv_iload_n hx hb dX5_commit_166 rfl (lv_at hl 1 rfl) ?_
                refine w_cv (r_V (As := [.int (nI (j_5))]) (rest := []) hF hB (c_X5_becomes l env s0 X u (a0) (0) (ha0) (j_5) hM hV hNm (by omega) (hcm _ hjl_7 c_8) (h68 _) hm) cv_X5_becomes tw_4_14 ⟨rfl, rfl, by decide, by decide⟩ (hB.recv ha0 (cn_20 env u (0)) rfl) rfl hl.1 rfl (lv_room (by decide)) dX5_commit_167 ⟨Nat.le_of_ble_eq_true rfl, Nat.le_of_ble_eq_true rfl⟩) hB (fun u_54 H locs hq_53 hB => ?_)
                obtain rfl := hq_53
                replace hB : Bd env s0 X (wM u (mBecomes u.2.2 (j_5))) s H locs := hB
                have hV_55 : MV (mBecomes u.2.2 (j_5)) := mBecomes_V hV (by omega) (hcm _ hjl_7 c_8) hm
                have hNm_56 : Nb (mBecomes u.2.2 (j_5)) := mBecomes_Nb hV hNm (by omega) (hcm _ hjl_7 c_8) (h68 _) hm
                refine lv_goto (tgt := 239) hx hb dX5_commit_170 (by decide) ?_
                refine lv_aload_n hx hb dX5_commit_239 rfl (lv_at hl 0 rfl) ?_
                refine w_get (v := .ref (sA u 28 0)) (fk := 7) hF hB ha0 (cn_20 env (wM u (mBecomes u.2.2 (j_5))) (0)) rfl in_X5 (by decide) tw_3_102 rfl rfl dX5_commit_240 ?_
                refine lv_iload_n hx hb dX5_commit_243 rfl (lv_at hl 1 rfl) ?_
                refine w_iald (v := .int (nI (gN (mBecomes u.2.2 (j_5)) 57 (0) (j_5)))) hF hB ⟨hM 28 (by decide), rfl⟩ (cn_28 env (wM u (mBecomes u.2.2 (j_5))) (0)) (by omega) rfl (by decide) dX5_commit_244 ?_
                have ec_57 : mCommit u.2.2 j_5 = (mBecomes u.2.2 (j_5)) := by rw [mCommit, if_neg (by simp [c_19]), if_neg (by simp [c_23]), if_pos c_24]
                exact w_iret (v := nI (gN (mBecomes u.2.2 (j_5)) 57 (0) (j_5))) hF hr hlocks hB (⟨by simp only [mcommit, hj_6, if_pos c_8]; rw [ec_57], by simp only [mcommit, hj_6, if_pos c_8]; rw [ec_57]⟩) dX5_commit_245
            · refine lv_aload_n hx hb dX5_commit_150 rfl (lv_at hl 0 rfl) ?_
              refine w_get (v := .ref (sA u 28 0)) (fk := 7) hF hB ha0 (cn_20 env u (0)) rfl in_X5 (by decide) tw_3_102 rfl rfl dX5_commit_151 ?_
              refine lv_iload_n hx hb dX5_commit_154 rfl (lv_at hl 1 rfl) ?_
              refine lv_iconst (v := nI 3) hx hb dX5_commit_155 (by decide) ?_
              refine w_iast (x := nI (3)) hF hB ⟨hM 28 (by decide), rfl⟩ (wM u (uN u.2.2 57 (0) (j_5) (3))) (cn_28 env u (0)) (by omega) (by decide) rfl rfl (cu_N57 env u (0) (j_5) (3)) dX5_commit_156 (fun H locs hB => ?_)
              refine lv_goto (tgt := 239) hx hb dX5_commit_157 (by decide) ?_
              refine lv_aload_n hx hb dX5_commit_239 rfl (lv_at hl 0 rfl) ?_
              refine w_get (v := .ref (sA u 28 0)) (fk := 7) hF hB ha0 (cn_20 env (wM u (uN u.2.2 57 (0) (j_5) (3))) (0)) rfl in_X5 (by decide) tw_3_102 rfl rfl dX5_commit_240 ?_
              refine lv_iload_n hx hb dX5_commit_243 rfl (lv_at hl 1 rfl) ?_
              refine w_iald (v := .int (nI (3))) hF hB ⟨hM 28 (by decide), rfl⟩ (cn_28 env (wM u (uN u.2.2 57 (0) (j_5) (3))) (0)) (by omega) (by simp [wM, vN, vB, vI, vJ, uN, uB, uI, uJ, gN, gB, gI, gJ, up3]) (by decide) dX5_commit_244 ?_
              have ec_58 : mCommit u.2.2 j_5 = (uN u.2.2 57 (0) (j_5) (3)) := by rw [mCommit, if_neg (by simp [c_19]), if_pos c_23]
              exact w_iret (v := nI 3) hF hr hlocks hB (⟨by simp only [mcommit, hj_6, if_pos c_8]; rw [ec_58], by simp only [mcommit, hj_6, if_pos c_8]; rw [ec_58]; simp [uN, gN, up3]⟩) dX5_commit_245
          · refine lv_aload_n hx hb dX5_commit_131 rfl (lv_at hl 0 rfl) ?_
            refine w_get (v := .ref (sA u 28 0)) (fk := 7) hF hB ha0 (cn_20 env u (0)) rfl in_X5 (by decide) tw_3_102 rfl rfl dX5_commit_132 ?_
            refine lv_iload_n hx hb dX5_commit_135 rfl (lv_at hl 1 rfl) ?_
            refine lv_iconst (v := nI 2) hx hb dX5_commit_136 (by decide) ?_
            refine w_iast (x := nI (2)) hF hB ⟨hM 28 (by decide), rfl⟩ (wM u (uN u.2.2 57 (0) (j_5) (2))) (cn_28 env u (0)) (by omega) (by decide) rfl rfl (cu_N57 env u (0) (j_5) (2)) dX5_commit_137 (fun H locs hB => ?_)
            refine lv_goto (tgt := 239) hx hb dX5_commit_138 (by decide) ?_
            refine lv_aload_n hx hb dX5_commit_239 rfl (lv_at hl 0 rfl) ?_
            refine w_get (v := .ref (sA u 28 0)) (fk := 7) hF hB ha0 (cn_20 env (wM u (uN u.2.2 57 (0) (j_5) (2))) (0)) rfl in_X5 (by decide) tw_3_102 rfl rfl dX5_commit_240 ?_
            refine lv_iload_n hx hb dX5_commit_243 rfl (lv_at hl 1 rfl) ?_
            refine w_iald (v := .int (nI (2))) hF hB ⟨hM 28 (by decide), rfl⟩ (cn_28 env (wM u (uN u.2.2 57 (0) (j_5) (2))) (0)) (by omega) (by simp [wM, vN, vB, vI, vJ, uN, uB, uI, uJ, gN, gB, gI, gJ, up3]) (by decide) dX5_commit_244 ?_
            have ec_59 : mCommit u.2.2 j_5 = (uN u.2.2 57 (0) (j_5) (2)) := by rw [mCommit, if_pos c_19]
            exact w_iret (v := nI 2) hF hr hlocks hB (⟨by simp only [mcommit, hj_6, if_pos c_8]; rw [ec_59], by simp only [mcommit, hj_6, if_pos c_8]; rw [ec_59]; simp [uN, gN, up3]⟩) dX5_commit_245
        · refine lv_iload_n hx hb dX5_commit_58 rfl (lv_at hl 3 rfl) ?_
          refine w_ifne_b (tgt := 77) hx hb dX5_commit_59 (by decide) (fun c_60 => ?_) (fun c_60 => ?_)
          · refine lv_iconst (v := nI 1) hx hb dX5_commit_77 (by decide) ?_
            refine lv_goto (tgt := 82) hx hb dX5_commit_78 (by decide) ?_
            refine lv_istore_n (lv' := [(3, .int (nI (1))), (0, .ref (a0)), (1, .int (nI (j_5))), (2, .int (nI (gN u.2.2 56 (0) (j_5)))), (4, .int (b2i (anyN (mAwayQ u.2.2 j_5 (gN u.2.2 56 0 j_5)) (i_13)))), (5, .int (nI (i_13)))]) hx hb dX5_commit_82 rfl hl (by decide) rfl (fun ls hl => ?_)
            refine lv_iload hx hb dX5_commit_83 (lv_at hl 4 rfl) ?_
            refine w_ifne_b (tgt := 114) hx hb dX5_commit_85 (by decide) (fun c_61 => ?_) (fun c_61 => ?_)
            · refine lv_iconst (v := nI 1) hx hb dX5_commit_114 (by decide) ?_
              refine lv_goto (tgt := 119) hx hb dX5_commit_115 (by decide) ?_
              refine lv_istore (lv' := [(4, .int (nI (1))), (3, .int (nI (1))), (0, .ref (a0)), (1, .int (nI (j_5))), (2, .int (nI (gN u.2.2 56 (0) (j_5)))), (5, .int (nI (i_13)))]) hx hb dX5_commit_119 hl (by decide) rfl (fun ls hl => ?_)
              refine lv_iinc (v := nI (i_13 + 1)) (lv' := [(5, .int (nI (i_13 + 1))), (4, .int (nI (1))), (3, .int (nI (1))), (0, .ref (a0)), (1, .int (nI (j_5))), (2, .int (nI (gN u.2.2 56 (0) (j_5))))]) hx hb dX5_commit_121 hl (k := 5) rfl (nI_add _ _) (by decide) rfl (fun ls hl => ?_)
              refine lv_goto (tgt := 49) hx hb dX5_commit_124 (by decide) ?_
              have ea_62 : (decide (0 < mPlain u.2.2 j_5) || anyN (mAddQ u.2.2 j_5) (i_13 + 1)) = true := by first | (simp [allN_s, anyN_s, cntN_s, sumL_s, Int64.add_assoc, mAddQ, mAwayQ, c_18, c_60, c_61] <;> omega) | grind [allN_s, anyN_s, cntN_s, sumL_s, Int64.add_assoc, mAddQ, mAwayQ]
              have ea_63 : anyN (mAwayQ u.2.2 j_5 (gN u.2.2 56 0 j_5)) (i_13 + 1) = true := by first | (simp [allN_s, anyN_s, cntN_s, sumL_s, Int64.add_assoc, mAddQ, mAwayQ, c_18, c_60, c_61] <;> omega) | grind [allN_s, anyN_s, cntN_s, sumL_s, Int64.add_assoc, mAddQ, mAwayQ]
              exact ih49 (H, locs, ls) (by omega) ⟨trivial, hB, by show lv_has ls 6 [(0, .ref (a0)), (1, .int (nI (j_5))), (2, .int (nI (gN u.2.2 56 (0) (j_5)))), (3, .int (b2i ((decide (0 < mPlain u.2.2 j_5) || anyN (mAddQ u.2.2 j_5) (i_13 + 1))))), (4, .int (b2i (anyN (mAwayQ u.2.2 j_5 (gN u.2.2 56 0 j_5)) (i_13 + 1)))), (5, .int (nI (i_13 + 1)))]; rw [ea_62, ea_63]; exact lv_sub hl [3, 4, 5, 2, 1, 0] rfl⟩
            · refine lv_aload_n hx hb dX5_commit_88 rfl (lv_at hl 1 rfl) ?_
              refine w_get (v := .ref (sA u 35 0)) (fk := 14) hF hB ha0 (cn_20 env u (0)) rfl in_X5 (by decide) tw_3_109 rfl rfl dX5_commit_89 ?_
              refine lv_bipush (v := nI 12) hx hb dX5_commit_92 (by decide) ?_
              refine lv_iload_n hx hb dX5_commit_94 rfl (lv_at hl 2 rfl) ?_
              refine w_imul_n hx hb dX5_commit_95 ?_
              refine lv_iload hx hb dX5_commit_96 (lv_at hl 5 rfl) ?_
              refine w_iadd_n hx hb dX5_commit_98 ?_
              refine w_zald (v := .int (b2i (gB u.2.2 64 (0) ((12 * j_5) + i_13)))) hF hB ⟨hM 35 (by decide), rfl⟩ (cn_35 env u (0)) (by omega) rfl (by decide) dX5_commit_99 ?_
              refine w_ifeq_b (tgt := 118) hx hb dX5_commit_100 (by decide) (fun c_64 => ?_) (fun c_64 => ?_)
              · refine lv_iconst (v := nI 0) hx hb dX5_commit_118 (by decide) ?_
                refine lv_istore (lv' := [(4, .int (nI (0))), (3, .int (nI (1))), (0, .ref (a0)), (1, .int (nI (j_5))), (2, .int (nI (gN u.2.2 56 (0) (j_5)))), (5, .int (nI (i_13)))]) hx hb dX5_commit_119 hl (by decide) rfl (fun ls hl => ?_)
                refine lv_iinc (v := nI (i_13 + 1)) (lv' := [(5, .int (nI (i_13 + 1))), (4, .int (nI (0))), (3, .int (nI (1))), (0, .ref (a0)), (1, .int (nI (j_5))), (2, .int (nI (gN u.2.2 56 (0) (j_5))))]) hx hb dX5_commit_121 hl (k := 5) rfl (nI_add _ _) (by decide) rfl (fun ls hl => ?_)
                refine lv_goto (tgt := 49) hx hb dX5_commit_124 (by decide) ?_
                have ea_65 : (decide (0 < mPlain u.2.2 j_5) || anyN (mAddQ u.2.2 j_5) (i_13 + 1)) = true := by first | (simp [allN_s, anyN_s, cntN_s, sumL_s, Int64.add_assoc, mAddQ, mAwayQ, c_18, c_60, c_61, c_64] <;> omega) | grind [allN_s, anyN_s, cntN_s, sumL_s, Int64.add_assoc, mAddQ, mAwayQ]
                have ea_66 : anyN (mAwayQ u.2.2 j_5 (gN u.2.2 56 0 j_5)) (i_13 + 1) = false := by first | (simp [allN_s, anyN_s, cntN_s, sumL_s, Int64.add_assoc, mAddQ, mAwayQ, c_18, c_60, c_61, c_64] <;> omega) | grind [allN_s, anyN_s, cntN_s, sumL_s, Int64.add_assoc, mAddQ, mAwayQ]
                exact ih49 (H, locs, ls) (by omega) ⟨trivial, hB, by show lv_has ls 6 [(0, .ref (a0)), (1, .int (nI (j_5))), (2, .int (nI (gN u.2.2 56 (0) (j_5)))), (3, .int (b2i ((decide (0 < mPlain u.2.2 j_5) || anyN (mAddQ u.2.2 j_5) (i_13 + 1))))), (4, .int (b2i (anyN (mAwayQ u.2.2 j_5 (gN u.2.2 56 0 j_5)) (i_13 + 1)))), (5, .int (nI (i_13 + 1)))]; rw [ea_65, ea_66]; exact lv_sub hl [3, 4, 5, 2, 1, 0] rfl⟩
              · refine lv_aload_n hx hb dX5_commit_103 rfl (lv_at hl 1 rfl) ?_
                refine w_get (v := .ref (sA u 24 0)) (fk := 3) hF hB ha0 (cn_20 env u (0)) rfl in_X5 (by decide) tw_3_98 rfl rfl dX5_commit_104 ?_
                refine lv_iload hx hb dX5_commit_107 (lv_at hl 5 rfl) ?_
                refine w_iald (v := .int (nI (gN u.2.2 53 (0) (i_13)))) hF hB ⟨hM 24 (by decide), rfl⟩ (cn_24 env u (0)) (by omega) rfl (by decide) dX5_commit_109 ?_
                refine lv_iload_n hx hb dX5_commit_110 rfl (lv_at hl 3 rfl) ?_
                refine w_iceq_n (tgt := 118) (by have := hNm 53 (0) (i_13); omega) (by have := hNm 56 (0) (j_5); omega) hx hb dX5_commit_111 (by decide) (fun c_67 => ?_) (fun c_67 => ?_)
                · refine lv_iconst (v := nI 0) hx hb dX5_commit_118 (by decide) ?_
                  refine lv_istore (lv' := [(4, .int (nI (0))), (3, .int (nI (1))), (0, .ref (a0)), (1, .int (nI (j_5))), (2, .int (nI (gN u.2.2 56 (0) (j_5)))), (5, .int (nI (i_13)))]) hx hb dX5_commit_119 hl (by decide) rfl (fun ls hl => ?_)
                  refine lv_iinc (v := nI (i_13 + 1)) (lv' := [(5, .int (nI (i_13 + 1))), (4, .int (nI (0))), (3, .int (nI (1))), (0, .ref (a0)), (1, .int (nI (j_5))), (2, .int (nI (gN u.2.2 56 (0) (j_5))))]) hx hb dX5_commit_121 hl (k := 5) rfl (nI_add _ _) (by decide) rfl (fun ls hl => ?_)
                  refine lv_goto (tgt := 49) hx hb dX5_commit_124 (by decide) ?_
                  have ea_68 : (decide (0 < mPlain u.2.2 j_5) || anyN (mAddQ u.2.2 j_5) (i_13 + 1)) = true := by first | (simp [allN_s, anyN_s, cntN_s, sumL_s, Int64.add_assoc, mAddQ, mAwayQ, c_18, c_60, c_61, c_64, c_67] <;> omega) | grind [allN_s, anyN_s, cntN_s, sumL_s, Int64.add_assoc, mAddQ, mAwayQ]
                  have ea_69 : anyN (mAwayQ u.2.2 j_5 (gN u.2.2 56 0 j_5)) (i_13 + 1) = false := by first | (simp [allN_s, anyN_s, cntN_s, sumL_s, Int64.add_assoc, mAddQ, mAwayQ, c_18, c_60, c_61, c_64, c_67] <;> omega) | grind [allN_s, anyN_s, cntN_s, sumL_s, Int64.add_assoc, mAddQ, mAwayQ]
                  exact ih49 (H, locs, ls) (by omega) ⟨trivial, hB, by show lv_has ls 6 [(0, .ref (a0)), (1, .int (nI (j_5))), (2, .int (nI (gN u.2.2 56 (0) (j_5)))), (3, .int (b2i ((decide (0 < mPlain u.2.2 j_5) || anyN (mAddQ u.2.2 j_5) (i_13 + 1))))), (4, .int (b2i (anyN (mAwayQ u.2.2 j_5 (gN u.2.2 56 0 j_5)) (i_13 + 1)))), (5, .int (nI (i_13 + 1)))]; rw [ea_68, ea_69]; exact lv_sub hl [3, 4, 5, 2, 1, 0] rfl⟩
                · refine lv_iconst (v := nI 1) hx hb dX5_commit_114 (by decide) ?_
                  refine lv_goto (tgt := 119) hx hb dX5_commit_115 (by decide) ?_
                  refine lv_istore (lv' := [(4, .int (nI (1))), (3, .int (nI (1))), (0, .ref (a0)), (1, .int (nI (j_5))), (2, .int (nI (gN u.2.2 56 (0) (j_5)))), (5, .int (nI (i_13)))]) hx hb dX5_commit_119 hl (by decide) rfl (fun ls hl => ?_)
                  refine lv_iinc (v := nI (i_13 + 1)) (lv' := [(5, .int (nI (i_13 + 1))), (4, .int (nI (1))), (3, .int (nI (1))), (0, .ref (a0)), (1, .int (nI (j_5))), (2, .int (nI (gN u.2.2 56 (0) (j_5))))]) hx hb dX5_commit_121 hl (k := 5) rfl (nI_add _ _) (by decide) rfl (fun ls hl => ?_)
                  refine lv_goto (tgt := 49) hx hb dX5_commit_124 (by decide) ?_
                  have ea_70 : (decide (0 < mPlain u.2.2 j_5) || anyN (mAddQ u.2.2 j_5) (i_13 + 1)) = true := by first | (simp [allN_s, anyN_s, cntN_s, sumL_s, Int64.add_assoc, mAddQ, mAwayQ, c_18, c_60, c_61, c_64, c_67] <;> omega) | grind [allN_s, anyN_s, cntN_s, sumL_s, Int64.add_assoc, mAddQ, mAwayQ]
                  have ea_71 : anyN (mAwayQ u.2.2 j_5 (gN u.2.2 56 0 j_5)) (i_13 + 1) = true := by first | (simp [allN_s, anyN_s, cntN_s, sumL_s, Int64.add_assoc, mAddQ, mAwayQ, c_18, c_60, c_61, c_64, c_67] <;> omega) | grind [allN_s, anyN_s, cntN_s, sumL_s, Int64.add_assoc, mAddQ, mAwayQ]
                  exact ih49 (H, locs, ls) (by omega) ⟨trivial, hB, by show lv_has ls 6 [(0, .ref (a0)), (1, .int (nI (j_5))), (2, .int (nI (gN u.2.2 56 (0) (j_5)))), (3, .int (b2i ((decide (0 < mPlain u.2.2 j_5) || anyN (mAddQ u.2.2 j_5) (i_13 + 1))))), (4, .int (b2i (anyN (mAwayQ u.2.2 j_5 (gN u.2.2 56 0 j_5)) (i_13 + 1)))), (5, .int (nI (i_13 + 1)))]; rw [ea_70, ea_71]; exact lv_sub hl [3, 4, 5, 2, 1, 0] rfl⟩
          · refine lv_aload_n hx hb dX5_commit_62 rfl (lv_at hl 0 rfl) ?_
            refine w_get (v := .ref (sA u 37 0)) (fk := 16) hF hB ha0 (cn_20 env u (0)) rfl in_X5 (by decide) tw_3_111 rfl rfl dX5_commit_63 ?_
            refine lv_bipush (v := nI 12) hx hb dX5_commit_66 (by decide) ?_
            refine lv_iload_n hx hb dX5_commit_68 rfl (lv_at hl 1 rfl) ?_
            refine w_imul_n hx hb dX5_commit_69 ?_
            refine lv_iload hx hb dX5_commit_70 (lv_at hl 5 rfl) ?_
            refine w_iadd_n hx hb dX5_commit_72 ?_
            refine w_zald (v := .int (b2i (gB u.2.2 66 (0) ((12 * j_5) + i_13)))) hF hB ⟨hM 37 (by decide), rfl⟩ (cn_37 env u (0)) (by omega) rfl (by decide) dX5_commit_73 ?_
            refine w_ifeq_b (tgt := 81) hx hb dX5_commit_74 (by decide) (fun c_72 => ?_) (fun c_72 => ?_)
            · refine lv_iconst (v := nI 0) hx hb dX5_commit_81 (by decide) ?_
              refine lv_istore_n (lv' := [(3, .int (nI (0))), (0, .ref (a0)), (1, .int (nI (j_5))), (2, .int (nI (gN u.2.2 56 (0) (j_5)))), (4, .int (b2i (anyN (mAwayQ u.2.2 j_5 (gN u.2.2 56 0 j_5)) (i_13)))), (5, .int (nI (i_13)))]) hx hb dX5_commit_82 rfl hl (by decide) rfl (fun ls hl => ?_)
              refine lv_iload hx hb dX5_commit_83 (lv_at hl 4 rfl) ?_
              refine w_ifne_b (tgt := 114) hx hb dX5_commit_85 (by decide) (fun c_73 => ?_) (fun c_73 => ?_)
              · refine lv_iconst (v := nI 1) hx hb dX5_commit_114 (by decide) ?_
                refine lv_goto (tgt := 119) hx hb dX5_commit_115 (by decide) ?_
                refine lv_istore (lv' := [(4, .int (nI (1))), (3, .int (nI (0))), (0, .ref (a0)), (1, .int (nI (j_5))), (2, .int (nI (gN u.2.2 56 (0) (j_5)))), (5, .int (nI (i_13)))]) hx hb dX5_commit_119 hl (by decide) rfl (fun ls hl => ?_)
                refine lv_iinc (v := nI (i_13 + 1)) (lv' := [(5, .int (nI (i_13 + 1))), (4, .int (nI (1))), (3, .int (nI (0))), (0, .ref (a0)), (1, .int (nI (j_5))), (2, .int (nI (gN u.2.2 56 (0) (j_5))))]) hx hb dX5_commit_121 hl (k := 5) rfl (nI_add _ _) (by decide) rfl (fun ls hl => ?_)
                refine lv_goto (tgt := 49) hx hb dX5_commit_124 (by decide) ?_
                have ea_74 : (decide (0 < mPlain u.2.2 j_5) || anyN (mAddQ u.2.2 j_5) (i_13 + 1)) = false := by first | (simp [allN_s, anyN_s, cntN_s, sumL_s, Int64.add_assoc, mAddQ, mAwayQ, c_18, c_60, c_72, c_73] <;> omega) | grind [allN_s, anyN_s, cntN_s, sumL_s, Int64.add_assoc, mAddQ, mAwayQ]
                have ea_75 : anyN (mAwayQ u.2.2 j_5 (gN u.2.2 56 0 j_5)) (i_13 + 1) = true := by first | (simp [allN_s, anyN_s, cntN_s, sumL_s, Int64.add_assoc, mAddQ, mAwayQ, c_18, c_60, c_72, c_73] <;> omega) | grind [allN_s, anyN_s, cntN_s, sumL_s, Int64.add_assoc, mAddQ, mAwayQ]
                exact ih49 (H, locs, ls) (by omega) ⟨trivial, hB, by show lv_has ls 6 [(0, .ref (a0)), (1, .int (nI (j_5))), (2, .int (nI (gN u.2.2 56 (0) (j_5)))), (3, .int (b2i ((decide (0 < mPlain u.2.2 j_5) || anyN (mAddQ u.2.2 j_5) (i_13 + 1))))), (4, .int (b2i (anyN (mAwayQ u.2.2 j_5 (gN u.2.2 56 0 j_5)) (i_13 + 1)))), (5, .int (nI (i_13 + 1)))]; rw [ea_74, ea_75]; exact lv_sub hl [3, 4, 5, 2, 1, 0] rfl⟩
              · refine lv_aload_n hx hb dX5_commit_88 rfl (lv_at hl 1 rfl) ?_
                refine w_get (v := .ref (sA u 35 0)) (fk := 14) hF hB ha0 (cn_20 env u (0)) rfl in_X5 (by decide) tw_3_109 rfl rfl dX5_commit_89 ?_
                refine lv_bipush (v := nI 12) hx hb dX5_commit_92 (by decide) ?_
                refine lv_iload_n hx hb dX5_commit_94 rfl (lv_at hl 2 rfl) ?_
                refine w_imul_n hx hb dX5_commit_95 ?_
                refine lv_iload hx hb dX5_commit_96 (lv_at hl 5 rfl) ?_
                refine w_iadd_n hx hb dX5_commit_98 ?_
                refine w_zald (v := .int (b2i (gB u.2.2 64 (0) ((12 * j_5) + i_13)))) hF hB ⟨hM 35 (by decide), rfl⟩ (cn_35 env u (0)) (by omega) rfl (by decide) dX5_commit_99 ?_
                refine w_ifeq_b (tgt := 118) hx hb dX5_commit_100 (by decide) (fun c_76 => ?_) (fun c_76 => ?_)
                · refine lv_iconst (v := nI 0) hx hb dX5_commit_118 (by decide) ?_
                  refine lv_istore (lv' := [(4, .int (nI (0))), (3, .int (nI (0))), (0, .ref (a0)), (1, .int (nI (j_5))), (2, .int (nI (gN u.2.2 56 (0) (j_5)))), (5, .int (nI (i_13)))]) hx hb dX5_commit_119 hl (by decide) rfl (fun ls hl => ?_)
                  refine lv_iinc (v := nI (i_13 + 1)) (lv' := [(5, .int (nI (i_13 + 1))), (4, .int (nI (0))), (3, .int (nI (0))), (0, .ref (a0)), (1, .int (nI (j_5))), (2, .int (nI (gN u.2.2 56 (0) (j_5))))]) hx hb dX5_commit_121 hl (k := 5) rfl (nI_add _ _) (by decide) rfl (fun ls hl => ?_)
                  refine lv_goto (tgt := 49) hx hb dX5_commit_124 (by decide) ?_
                  have ea_77 : (decide (0 < mPlain u.2.2 j_5) || anyN (mAddQ u.2.2 j_5) (i_13 + 1)) = false := by first | (simp [allN_s, anyN_s, cntN_s, sumL_s, Int64.add_assoc, mAddQ, mAwayQ, c_18, c_60, c_72, c_73, c_76] <;> omega) | grind [allN_s, anyN_s, cntN_s, sumL_s, Int64.add_assoc, mAddQ, mAwayQ]
                  have ea_78 : anyN (mAwayQ u.2.2 j_5 (gN u.2.2 56 0 j_5)) (i_13 + 1) = false := by first | (simp [allN_s, anyN_s, cntN_s, sumL_s, Int64.add_assoc, mAddQ, mAwayQ, c_18, c_60, c_72, c_73, c_76] <;> omega) | grind [allN_s, anyN_s, cntN_s, sumL_s, Int64.add_assoc, mAddQ, mAwayQ]
                  exact ih49 (H, locs, ls) (by omega) ⟨trivial, hB, by show lv_has ls 6 [(0, .ref (a0)), (1, .int (nI (j_5))), (2, .int (nI (gN u.2.2 56 (0) (j_5)))), (3, .int (b2i ((decide (0 < mPlain u.2.2 j_5) || anyN (mAddQ u.2.2 j_5) (i_13 + 1))))), (4, .int (b2i (anyN (mAwayQ u.2.2 j_5 (gN u.2.2 56 0 j_5)) (i_13 + 1)))), (5, .int (nI (i_13 + 1)))]; rw [ea_77, ea_78]; exact lv_sub hl [3, 4, 5, 2, 1, 0] rfl⟩
                · refine lv_aload_n hx hb dX5_commit_103 rfl (lv_at hl 1 rfl) ?_
                  refine w_get (v := .ref (sA u 24 0)) (fk := 3) hF hB ha0 (cn_20 env u (0)) rfl in_X5 (by decide) tw_3_98 rfl rfl dX5_commit_104 ?_
                  refine lv_iload hx hb dX5_commit_107 (lv_at hl 5 rfl) ?_
                  refine w_iald (v := .int (nI (gN u.2.2 53 (0) (i_13)))) hF hB ⟨hM 24 (by decide), rfl⟩ (cn_24 env u (0)) (by omega) rfl (by decide) dX5_commit_109 ?_
                  refine lv_iload_n hx hb dX5_commit_110 rfl (lv_at hl 3 rfl) ?_
                  refine w_iceq_n (tgt := 118) (by have := hNm 53 (0) (i_13); omega) (by have := hNm 56 (0) (j_5); omega) hx hb dX5_commit_111 (by decide) (fun c_79 => ?_) (fun c_79 => ?_)
                  · refine lv_iconst (v := nI 0) hx hb dX5_commit_118 (by decide) ?_
                    refine lv_istore (lv' := [(4, .int (nI (0))), (3, .int (nI (0))), (0, .ref (a0)), (1, .int (nI (j_5))), (2, .int (nI (gN u.2.2 56 (0) (j_5)))), (5, .int (nI (i_13)))]) hx hb dX5_commit_119 hl (by decide) rfl (fun ls hl => ?_)
                    refine lv_iinc (v := nI (i_13 + 1)) (lv' := [(5, .int (nI (i_13 + 1))), (4, .int (nI (0))), (3, .int (nI (0))), (0, .ref (a0)), (1, .int (nI (j_5))), (2, .int (nI (gN u.2.2 56 (0) (j_5))))]) hx hb dX5_commit_121 hl (k := 5) rfl (nI_add _ _) (by decide) rfl (fun ls hl => ?_)
                    refine lv_goto (tgt := 49) hx hb dX5_commit_124 (by decide) ?_
                    have ea_80 : (decide (0 < mPlain u.2.2 j_5) || anyN (mAddQ u.2.2 j_5) (i_13 + 1)) = false := by first | (simp [allN_s, anyN_s, cntN_s, sumL_s, Int64.add_assoc, mAddQ, mAwayQ, c_18, c_60, c_72, c_73, c_76, c_79] <;> omega) | grind [allN_s, anyN_s, cntN_s, sumL_s, Int64.add_assoc, mAddQ, mAwayQ]
                    have ea_81 : anyN (mAwayQ u.2.2 j_5 (gN u.2.2 56 0 j_5)) (i_13 + 1) = false := by first | (simp [allN_s, anyN_s, cntN_s, sumL_s, Int64.add_assoc, mAddQ, mAwayQ, c_18, c_60, c_72, c_73, c_76, c_79] <;> omega) | grind [allN_s, anyN_s, cntN_s, sumL_s, Int64.add_assoc, mAddQ, mAwayQ]
                    exact ih49 (H, locs, ls) (by omega) ⟨trivial, hB, by show lv_has ls 6 [(0, .ref (a0)), (1, .int (nI (j_5))), (2, .int (nI (gN u.2.2 56 (0) (j_5)))), (3, .int (b2i ((decide (0 < mPlain u.2.2 j_5) || anyN (mAddQ u.2.2 j_5) (i_13 + 1))))), (4, .int (b2i (anyN (mAwayQ u.2.2 j_5 (gN u.2.2 56 0 j_5)) (i_13 + 1)))), (5, .int (nI (i_13 + 1)))]; rw [ea_80, ea_81]; exact lv_sub hl [3, 4, 5, 2, 1, 0] rfl⟩
                  · refine lv_iconst (v := nI 1) hx hb dX5_commit_114 (by decide) ?_
                    refine lv_goto (tgt := 119) hx hb dX5_commit_115 (by decide) ?_
                    refine lv_istore (lv' := [(4, .int (nI (1))), (3, .int (nI (0))), (0, .ref (a0)), (1, .int (nI (j_5))), (2, .int (nI (gN u.2.2 56 (0) (j_5)))), (5, .int (nI (i_13)))]) hx hb dX5_commit_119 hl (by decide) rfl (fun ls hl => ?_)
                    refine lv_iinc (v := nI (i_13 + 1)) (lv' := [(5, .int (nI (i_13 + 1))), (4, .int (nI (1))), (3, .int (nI (0))), (0, .ref (a0)), (1, .int (nI (j_5))), (2, .int (nI (gN u.2.2 56 (0) (j_5))))]) hx hb dX5_commit_121 hl (k := 5) rfl (nI_add _ _) (by decide) rfl (fun ls hl => ?_)
                    refine lv_goto (tgt := 49) hx hb dX5_commit_124 (by decide) ?_
                    have ea_82 : (decide (0 < mPlain u.2.2 j_5) || anyN (mAddQ u.2.2 j_5) (i_13 + 1)) = false := by first | (simp [allN_s, anyN_s, cntN_s, sumL_s, Int64.add_assoc, mAddQ, mAwayQ, c_18, c_60, c_72, c_73, c_76, c_79] <;> omega) | grind [allN_s, anyN_s, cntN_s, sumL_s, Int64.add_assoc, mAddQ, mAwayQ]
                    have ea_83 : anyN (mAwayQ u.2.2 j_5 (gN u.2.2 56 0 j_5)) (i_13 + 1) = true := by first | (simp [allN_s, anyN_s, cntN_s, sumL_s, Int64.add_assoc, mAddQ, mAwayQ, c_18, c_60, c_72, c_73, c_76, c_79] <;> omega) | grind [allN_s, anyN_s, cntN_s, sumL_s, Int64.add_assoc, mAddQ, mAwayQ]
                    exact ih49 (H, locs, ls) (by omega) ⟨trivial, hB, by show lv_has ls 6 [(0, .ref (a0)), (1, .int (nI (j_5))), (2, .int (nI (gN u.2.2 56 (0) (j_5)))), (3, .int (b2i ((decide (0 < mPlain u.2.2 j_5) || anyN (mAddQ u.2.2 j_5) (i_13 + 1))))), (4, .int (b2i (anyN (mAwayQ u.2.2 j_5 (gN u.2.2 56 0 j_5)) (i_13 + 1)))), (5, .int (nI (i_13 + 1)))]; rw [ea_82, ea_83]; exact lv_sub hl [3, 4, 5, 2, 1, 0] rfl⟩
            · refine lv_iconst (v := nI 1) hx hb dX5_commit_77 (by decide) ?_
              refine lv_goto (tgt := 82) hx hb dX5_commit_78 (by decide) ?_
              refine lv_istore_n (lv' := [(3, .int (nI (1))), (0, .ref (a0)), (1, .int (nI (j_5))), (2, .int (nI (gN u.2.2 56 (0) (j_5)))), (4, .int (b2i (anyN (mAwayQ u.2.2 j_5 (gN u.2.2 56 0 j_5)) (i_13)))), (5, .int (nI (i_13)))]) hx hb dX5_commit_82 rfl hl (by decide) rfl (fun ls hl => ?_)
              refine lv_iload hx hb dX5_commit_83 (lv_at hl 4 rfl) ?_
              refine w_ifne_b (tgt := 114) hx hb dX5_commit_85 (by decide) (fun c_84 => ?_) (fun c_84 => ?_)
              · refine lv_iconst (v := nI 1) hx hb dX5_commit_114 (by decide) ?_
                refine lv_goto (tgt := 119) hx hb dX5_commit_115 (by decide) ?_
                refine lv_istore (lv' := [(4, .int (nI (1))), (3, .int (nI (1))), (0, .ref (a0)), (1, .int (nI (j_5))), (2, .int (nI (gN u.2.2 56 (0) (j_5)))), (5, .int (nI (i_13)))]) hx hb dX5_commit_119 hl (by decide) rfl (fun ls hl => ?_)
                refine lv_iinc (v := nI (i_13 + 1)) (lv' := [(5, .int (nI (i_13 + 1))), (4, .int (nI (1))), (3, .int (nI (1))), (0, .ref (a0)), (1, .int (nI (j_5))), (2, .int (nI (gN u.2.2 56 (0) (j_5))))]) hx hb dX5_commit_121 hl (k := 5) rfl (nI_add _ _) (by decide) rfl (fun ls hl => ?_)
                refine lv_goto (tgt := 49) hx hb dX5_commit_124 (by decide) ?_
                have ea_85 : (decide (0 < mPlain u.2.2 j_5) || anyN (mAddQ u.2.2 j_5) (i_13 + 1)) = true := by first | (simp [allN_s, anyN_s, cntN_s, sumL_s, Int64.add_assoc, mAddQ, mAwayQ, c_18, c_60, c_72, c_84] <;> omega) | grind [allN_s, anyN_s, cntN_s, sumL_s, Int64.add_assoc, mAddQ, mAwayQ]
                have ea_86 : anyN (mAwayQ u.2.2 j_5 (gN u.2.2 56 0 j_5)) (i_13 + 1) = true := by first | (simp [allN_s, anyN_s, cntN_s, sumL_s, Int64.add_assoc, mAddQ, mAwayQ, c_18, c_60, c_72, c_84] <;> omega) | grind [allN_s, anyN_s, cntN_s, sumL_s, Int64.add_assoc, mAddQ, mAwayQ]
                exact ih49 (H, locs, ls) (by omega) ⟨trivial, hB, by show lv_has ls 6 [(0, .ref (a0)), (1, .int (nI (j_5))), (2, .int (nI (gN u.2.2 56 (0) (j_5)))), (3, .int (b2i ((decide (0 < mPlain u.2.2 j_5) || anyN (mAddQ u.2.2 j_5) (i_13 + 1))))), (4, .int (b2i (anyN (mAwayQ u.2.2 j_5 (gN u.2.2 56 0 j_5)) (i_13 + 1)))), (5, .int (nI (i_13 + 1)))]; rw [ea_85, ea_86]; exact lv_sub hl [3, 4, 5, 2, 1, 0] rfl⟩
              · refine lv_aload_n hx hb dX5_commit_88 rfl (lv_at hl 1 rfl) ?_
                refine w_get (v := .ref (sA u 35 0)) (fk := 14) hF hB ha0 (cn_20 env u (0)) rfl in_X5 (by decide) tw_3_109 rfl rfl dX5_commit_89 ?_
                refine lv_bipush (v := nI 12) hx hb dX5_commit_92 (by decide) ?_
                refine lv_iload_n hx hb dX5_commit_94 rfl (lv_at hl 2 rfl) ?_
                refine w_imul_n hx hb dX5_commit_95 ?_
                refine lv_iload hx hb dX5_commit_96 (lv_at hl 5 rfl) ?_
                refine w_iadd_n hx hb dX5_commit_98 ?_
                refine w_zald (v := .int (b2i (gB u.2.2 64 (0) ((12 * j_5) + i_13)))) hF hB ⟨hM 35 (by decide), rfl⟩ (cn_35 env u (0)) (by omega) rfl (by decide) dX5_commit_99 ?_
                refine w_ifeq_b (tgt := 118) hx hb dX5_commit_100 (by decide) (fun c_87 => ?_) (fun c_87 => ?_)
                · refine lv_iconst (v := nI 0) hx hb dX5_commit_118 (by decide) ?_
                  refine lv_istore (lv' := [(4, .int (nI (0))), (3, .int (nI (1))), (0, .ref (a0)), (1, .int (nI (j_5))), (2, .int (nI (gN u.2.2 56 (0) (j_5)))), (5, .int (nI (i_13)))]) hx hb dX5_commit_119 hl (by decide) rfl (fun ls hl => ?_)
                  refine lv_iinc (v := nI (i_13 + 1)) (lv' := [(5, .int (nI (i_13 + 1))), (4, .int (nI (0))), (3, .int (nI (1))), (0, .ref (a0)), (1, .int (nI (j_5))), (2, .int (nI (gN u.2.2 56 (0) (j_5))))]) hx hb dX5_commit_121 hl (k := 5) rfl (nI_add _ _) (by decide) rfl (fun ls hl => ?_)
                  refine lv_goto (tgt := 49) hx hb dX5_commit_124 (by decide) ?_
                  have ea_88 : (decide (0 < mPlain u.2.2 j_5) || anyN (mAddQ u.2.2 j_5) (i_13 + 1)) = true := by first | (simp [allN_s, anyN_s, cntN_s, sumL_s, Int64.add_assoc, mAddQ, mAwayQ, c_18, c_60, c_72, c_84, c_87] <;> omega) | grind [allN_s, anyN_s, cntN_s, sumL_s, Int64.add_assoc, mAddQ, mAwayQ]
                  have ea_89 : anyN (mAwayQ u.2.2 j_5 (gN u.2.2 56 0 j_5)) (i_13 + 1) = false := by first | (simp [allN_s, anyN_s, cntN_s, sumL_s, Int64.add_assoc, mAddQ, mAwayQ, c_18, c_60, c_72, c_84, c_87] <;> omega) | grind [allN_s, anyN_s, cntN_s, sumL_s, Int64.add_assoc, mAddQ, mAwayQ]
                  exact ih49 (H, locs, ls) (by omega) ⟨trivial, hB, by show lv_has ls 6 [(0, .ref (a0)), (1, .int (nI (j_5))), (2, .int (nI (gN u.2.2 56 (0) (j_5)))), (3, .int (b2i ((decide (0 < mPlain u.2.2 j_5) || anyN (mAddQ u.2.2 j_5) (i_13 + 1))))), (4, .int (b2i (anyN (mAwayQ u.2.2 j_5 (gN u.2.2 56 0 j_5)) (i_13 + 1)))), (5, .int (nI (i_13 + 1)))]; rw [ea_88, ea_89]; exact lv_sub hl [3, 4, 5, 2, 1, 0] rfl⟩
                · refine lv_aload_n hx hb dX5_commit_103 rfl (lv_at hl 1 rfl) ?_
                  refine w_get (v := .ref (sA u 24 0)) (fk := 3) hF hB ha0 (cn_20 env u (0)) rfl in_X5 (by decide) tw_3_98 rfl rfl dX5_commit_104 ?_
                  refine lv_iload hx hb dX5_commit_107 (lv_at hl 5 rfl) ?_
                  refine w_iald (v := .int (nI (gN u.2.2 53 (0) (i_13)))) hF hB ⟨hM 24 (by decide), rfl⟩ (cn_24 env u (0)) (by omega) rfl (by decide) dX5_commit_109 ?_
                  refine lv_iload_n hx hb dX5_commit_110 rfl (lv_at hl 3 rfl) ?_
                  refine w_iceq_n (tgt := 118) (by have := hNm 53 (0) (i_13); omega) (by have := hNm 56 (0) (j_5); omega) hx hb dX5_commit_111 (by decide) (fun c_90 => ?_) (fun c_90 => ?_)
                  · refine lv_iconst (v := nI 0) hx hb dX5_commit_118 (by decide) ?_
                    refine lv_istore (lv' := [(4, .int (nI (0))), (3, .int (nI (1))), (0, .ref (a0)), (1, .int (nI (j_5))), (2, .int (nI (gN u.2.2 56 (0) (j_5)))), (5, .int (nI (i_13)))]) hx hb dX5_commit_119 hl (by decide) rfl (fun ls hl => ?_)
                    refine lv_iinc (v := nI (i_13 + 1)) (lv' := [(5, .int (nI (i_13 + 1))), (4, .int (nI (0))), (3, .int (nI (1))), (0, .ref (a0)), (1, .int (nI (j_5))), (2, .int (nI (gN u.2.2 56 (0) (j_5))))]) hx hb dX5_commit_121 hl (k := 5) rfl (nI_add _ _) (by decide) rfl (fun ls hl => ?_)
                    refine lv_goto (tgt := 49) hx hb dX5_commit_124 (by decide) ?_
                    have ea_91 : (decide (0 < mPlain u.2.2 j_5) || anyN (mAddQ u.2.2 j_5) (i_13 + 1)) = true := by first | (simp [allN_s, anyN_s, cntN_s, sumL_s, Int64.add_assoc, mAddQ, mAwayQ, c_18, c_60, c_72, c_84, c_87, c_90] <;> omega) | grind [allN_s, anyN_s, cntN_s, sumL_s, Int64.add_assoc, mAddQ, mAwayQ]
                    have ea_92 : anyN (mAwayQ u.2.2 j_5 (gN u.2.2 56 0 j_5)) (i_13 + 1) = false := by first | (simp [allN_s, anyN_s, cntN_s, sumL_s, Int64.add_assoc, mAddQ, mAwayQ, c_18, c_60, c_72, c_84, c_87, c_90] <;> omega) | grind [allN_s, anyN_s, cntN_s, sumL_s, Int64.add_assoc, mAddQ, mAwayQ]
                    exact ih49 (H, locs, ls) (by omega) ⟨trivial, hB, by show lv_has ls 6 [(0, .ref (a0)), (1, .int (nI (j_5))), (2, .int (nI (gN u.2.2 56 (0) (j_5)))), (3, .int (b2i ((decide (0 < mPlain u.2.2 j_5) || anyN (mAddQ u.2.2 j_5) (i_13 + 1))))), (4, .int (b2i (anyN (mAwayQ u.2.2 j_5 (gN u.2.2 56 0 j_5)) (i_13 + 1)))), (5, .int (nI (i_13 + 1)))]; rw [ea_91, ea_92]; exact lv_sub hl [3, 4, 5, 2, 1, 0] rfl⟩
                  · refine lv_iconst (v := nI 1) hx hb dX5_commit_114 (by decide) ?_
                    refine lv_goto (tgt := 119) hx hb dX5_commit_115 (by decide) ?_
                    refine lv_istore (lv' := [(4, .int (nI (1))), (3, .int (nI (1))), (0, .ref (a0)), (1, .int (nI (j_5))), (2, .int (nI (gN u.2.2 56 (0) (j_5)))), (5, .int (nI (i_13)))]) hx hb dX5_commit_119 hl (by decide) rfl (fun ls hl => ?_)
                    refine lv_iinc (v := nI (i_13 + 1)) (lv' := [(5, .int (nI (i_13 + 1))), (4, .int (nI (1))), (3, .int (nI (1))), (0, .ref (a0)), (1, .int (nI (j_5))), (2, .int (nI (gN u.2.2 56 (0) (j_5))))]) hx hb dX5_commit_121 hl (k := 5) rfl (nI_add _ _) (by decide) rfl (fun ls hl => ?_)
                    refine lv_goto (tgt := 49) hx hb dX5_commit_124 (by decide) ?_
                    have ea_93 : (decide (0 < mPlain u.2.2 j_5) || anyN (mAddQ u.2.2 j_5) (i_13 + 1)) = true := by first | (simp [allN_s, anyN_s, cntN_s, sumL_s, Int64.add_assoc, mAddQ, mAwayQ, c_18, c_60, c_72, c_84, c_87, c_90] <;> omega) | grind [allN_s, anyN_s, cntN_s, sumL_s, Int64.add_assoc, mAddQ, mAwayQ]
                    have ea_94 : anyN (mAwayQ u.2.2 j_5 (gN u.2.2 56 0 j_5)) (i_13 + 1) = true := by first | (simp [allN_s, anyN_s, cntN_s, sumL_s, Int64.add_assoc, mAddQ, mAwayQ, c_18, c_60, c_72, c_84, c_87, c_90] <;> omega) | grind [allN_s, anyN_s, cntN_s, sumL_s, Int64.add_assoc, mAddQ, mAwayQ]
                    exact ih49 (H, locs, ls) (by omega) ⟨trivial, hB, by show lv_has ls 6 [(0, .ref (a0)), (1, .int (nI (j_5))), (2, .int (nI (gN u.2.2 56 (0) (j_5)))), (3, .int (b2i ((decide (0 < mPlain u.2.2 j_5) || anyN (mAddQ u.2.2 j_5) (i_13 + 1))))), (4, .int (b2i (anyN (mAwayQ u.2.2 j_5 (gN u.2.2 56 0 j_5)) (i_13 + 1)))), (5, .int (nI (i_13 + 1)))]; rw [ea_93, ea_94]; exact lv_sub hl [3, 4, 5, 2, 1, 0] rfl⟩
      · refine lv_iconst (v := nI 1) hx hb dX5_commit_37 (by decide) ?_
        refine lv_goto (tgt := 42) hx hb dX5_commit_38 (by decide) ?_
        refine lv_istore_n (lv' := [(3, .int (nI (1))), (2, .int (nI (gN u.2.2 56 (0) (j_5)))), (0, .ref (a0)), (1, .int (nI (j_5)))]) hx hb dX5_commit_42 rfl hl (by decide) rfl (fun ls hl => ?_)
        refine lv_iconst (v := nI 0) hx hb dX5_commit_43 (by decide) ?_
        refine lv_istore (lv' := [(4, .int (nI (0))), (3, .int (nI (1))), (2, .int (nI (gN u.2.2 56 (0) (j_5)))), (0, .ref (a0)), (1, .int (nI (j_5)))]) hx hb dX5_commit_44 hl (by decide) rfl (fun ls hl => ?_)
        refine lv_iconst (v := nI 0) hx hb dX5_commit_46 (by decide) ?_
        refine lv_istore (lv' := [(5, .int (nI (0))), (4, .int (nI (0))), (3, .int (nI (1))), (2, .int (nI (gN u.2.2 56 (0) (j_5)))), (0, .ref (a0)), (1, .int (nI (j_5)))]) hx hb dX5_commit_47 hl (by decide) rfl (fun ls hl => ?_)
        have ea_96 : (decide (0 < mPlain u.2.2 j_5) || anyN (mAddQ u.2.2 j_5) (0)) = true := by simp [allN_0, anyN_0, sumL_0, mAddQ, mAwayQ, hj_6, c_8, c_12] <;> omega
        have ea_97 : anyN (mAwayQ u.2.2 j_5 (gN u.2.2 56 0 j_5)) (0) = false := by simp [allN_0, anyN_0, sumL_0, mAddQ, mAwayQ, hj_6, c_8, c_12] <;> omega
        refine wloopH (σ := Heap × List Loc × Array Slot) (G := fun x => W p l e _ s m _ below meth c x.1 x.2.1 _ _ _ (F0 m 49 x.2.2 [])) (P := fun i_95 x => (True) ∧ Bd env s0 X u s x.1 x.2.1 ∧ lv_has x.2.2 6 [(0, .ref (a0)), (1, .int (nI (j_5))), (2, .int (nI (gN u.2.2 56 (0) (j_5)))), (3, .int (b2i ((decide (0 < mPlain u.2.2 j_5) || anyN (mAddQ u.2.2 j_5) (i_95))))), (4, .int (b2i (anyN (mAwayQ u.2.2 j_5 (gN u.2.2 56 0 j_5)) (i_95)))), (5, .int (nI (i_95)))]) (N := gN u.2.2 52 0 0) ?_ 0 (_, _, ls) (Nat.zero_le _) ⟨trivial, hB, by show lv_has ls 6 [(0, .ref (a0)), (1, .int (nI (j_5))), (2, .int (nI (gN u.2.2 56 (0) (j_5)))), (3, .int (b2i ((decide (0 < mPlain u.2.2 j_5) || anyN (mAddQ u.2.2 j_5) (0))))), (4, .int (b2i (anyN (mAwayQ u.2.2 j_5 (gN u.2.2 56 0 j_5)) (0)))), (5, .int (nI (0)))]; rw [ea_96, ea_97]; exact lv_sub hl [4, 5, 3, 2, 1, 0] rfl⟩
        rintro i_95 ⟨H, locs, ls⟩ hi_98 ⟨hv_99, hB, hl⟩ ih49
        replace hB : Bd env s0 X u s H locs := hB
        replace hl : lv_has ls 6 [(0, .ref (a0)), (1, .int (nI (j_5))), (2, .int (nI (gN u.2.2 56 (0) (j_5)))), (3, .int (b2i ((decide (0 < mPlain u.2.2 j_5) || anyN (mAddQ u.2.2 j_5) (i_95))))), (4, .int (b2i (anyN (mAwayQ u.2.2 j_5 (gN u.2.2 56 0 j_5)) (i_95)))), (5, .int (nI (i_95)))] := hl
        show W p l e _ s m _ below meth c H locs _ _ _ (F0 m 49 ls [])
        have := hNm 52 0 0
        have := hV.nth
        refine lv_iload hx hb dX5_commit_49 (lv_at hl 5 rfl) ?_
        refine lv_aload_n hx hb dX5_commit_51 rfl (lv_at hl 0 rfl) ?_
        refine w_get (v := .int (nI (gN u.2.2 52 (0) (0)))) (fk := 2) hF hB ha0 (cn_20 env u (0)) rfl in_X5 (by decide) tw_3_97 rfl rfl dX5_commit_52 ?_
        refine w_icge_n (tgt := 127) (by omega) (by have := hNm 52 (0) (0); omega) hx hb dX5_commit_55 (by decide) (fun c_100 => ?_) (fun c_100 => ?_)
        · obtain rfl : i_95 = gN u.2.2 52 0 0 := by omega
          replace hl : lv_has ls 6 [(0, .ref (a0)), (1, .int (nI (j_5))), (2, .int (nI (gN u.2.2 56 (0) (j_5)))), (3, .int (b2i (mAny u.2.2 j_5))), (4, .int (b2i (mAway u.2.2 j_5))), (5, .int (nI (gN u.2.2 52 0 0)))] := hl
          refine lv_iload_n hx hb dX5_commit_127 rfl (lv_at hl 3 rfl) ?_
          refine w_ifne_b (tgt := 141) hx hb dX5_commit_128 (by decide) (fun c_101 => ?_) (fun c_101 => ?_)
          · refine lv_aload_n hx hb dX5_commit_141 rfl (lv_at hl 0 rfl) ?_
            refine lv_iload_n hx hb dX5_commit_142 rfl (lv_at hl 1 rfl) ?_
            refine lv_iload_n hx hb dX5_commit_143 rfl (lv_at hl 2 rfl) ?_
            refine w_ci (r_V (As := [.int (nI (j_5)), .int (nI (gN u.2.2 56 (0) (j_5)))]) (rest := []) hF hB (c_X5_areFree l env s0 X u (a0) (0) (ha0) (j_5) (gN u.2.2 56 (0) (j_5)) hM hV hNm (by omega) (hV.site _)) cv_X5_areFree tw_4_6 ⟨rfl, rfl, by decide, by decide⟩ (hB.recv ha0 (cn_20 env u (0)) rfl) rfl hl.1 rfl (lv_room (by decide)) dX5_commit_144 ⟨Nat.le_of_ble_eq_true rfl, Nat.le_of_ble_eq_true rfl⟩) hB (fun r_102 u_104 H locs hq_103 hB => ?_)
            obtain ⟨rfl, rfl⟩ := hq_103
            refine w_ifne_b (tgt := 160) hx hb dX5_commit_147 (by decide) (fun c_105 => ?_) (fun c_105 => ?_)
            · refine lv_iload hx hb dX5_commit_160 (lv_at hl 4 rfl) ?_
              refine w_ifne_b (tgt := 173) hx hb dX5_commit_162 (by decide) (fun c_106 => ?_) (fun c_106 => ?_)
              · refine lv_aload_n hx hb dX5_commit_173 rfl (lv_at hl 0 rfl) ?_
                refine lv_iload_n hx hb dX5_commit_174 rfl (lv_at hl 1 rfl) ?_
                refine lv_iload_n hx hb dX5_commit_175 rfl (lv_at hl 2 rfl) ?_
                refine w_cv (r_V (As := [.int (nI (j_5)), .int (nI (gN u.2.2 56 (0) (j_5)))]) (rest := []) hF hB (c_X5_lock l env s0 X u (a0) (0) (ha0) (j_5) (gN u.2.2 56 (0) (j_5)) hM hV hNm (by omega) (hV.site _)) cv_X5_lock tw_4_30 ⟨rfl, rfl, by decide, by decide⟩ (hB.recv ha0 (cn_20 env u (0)) rfl) rfl hl.1 rfl (lv_room (by decide)) dX5_commit_176 ⟨Nat.le_of_ble_eq_true rfl, Nat.le_of_ble_eq_true rfl⟩) hB (fun u_109 H locs hq_108 hB => ?_)
                obtain rfl := hq_108
                replace hB : Bd env s0 X (wM u (mLock u.2.2 (j_5) (gN u.2.2 56 (0) (j_5)) (gN u.2.2 52 0 0))) s H locs := hB
                have hV_110 : MV (mLock u.2.2 (j_5) (gN u.2.2 56 (0) (j_5)) (gN u.2.2 52 0 0)) := MV.ofN (mLock_N _ _ _ _) hV
                have hNm_111 : Nb (mLock u.2.2 (j_5) (gN u.2.2 56 (0) (j_5)) (gN u.2.2 52 0 0)) := Nb.ofN (mLock_N _ _ _ _) hNm
                refine lv_aload_n hx hb dX5_commit_179 rfl (lv_at hl 0 rfl) ?_
                refine w_get (v := .ref (sA u 28 0)) (fk := 7) hF hB ha0 (cn_20 env (wM u (mLock u.2.2 (j_5) (gN u.2.2 56 (0) (j_5)) (gN u.2.2 52 0 0))) (0)) rfl in_X5 (by decide) tw_3_102 rfl rfl dX5_commit_180 ?_
                refine lv_iload_n hx hb dX5_commit_183 rfl (lv_at hl 1 rfl) ?_
                refine lv_iconst (v := nI 1) hx hb dX5_commit_184 (by decide) ?_
                refine w_iast (x := nI (1)) hF hB ⟨hM 28 (by decide), rfl⟩ (wM u (uN (mLock u.2.2 (j_5) (gN u.2.2 56 (0) (j_5)) (gN u.2.2 52 0 0)) 57 (0) (j_5) (1))) (cn_28 env (wM u (mLock u.2.2 (j_5) (gN u.2.2 56 (0) (j_5)) (gN u.2.2 52 0 0))) (0)) (by omega) (by decide) rfl rfl (cu_N57 env (wM u (mLock u.2.2 (j_5) (gN u.2.2 56 (0) (j_5)) (gN u.2.2 52 0 0))) (0) (j_5) (1)) dX5_commit_185 (fun H locs hB => ?_)
                refine lv_iconst (v := nI 0) hx hb dX5_commit_186 (by decide) ?_
                refine lv_istore (lv' := [(5, .int (nI (0))), (0, .ref (a0)), (1, .int (nI (j_5))), (2, .int (nI (gN u.2.2 56 (0) (j_5)))), (3, .int (b2i (mAny u.2.2 j_5))), (4, .int (b2i (mAway u.2.2 j_5)))]) hx hb dX5_commit_187 hl (by decide) rfl (fun ls hl => ?_)
                replace hB : Bd env s0 X (wM u (uN (mLock u.2.2 j_5 (gN u.2.2 56 0 j_5) (gN u.2.2 52 0 0)) 57 0 j_5 1)) s H locs := hB
                have hV_112 : MV (uN (mLock u.2.2 j_5 (gN u.2.2 56 0 j_5) (gN u.2.2 52 0 0)) 57 0 j_5 1) := (show MV (mLock u.2.2 j_5 (gN u.2.2 56 0 j_5) (gN u.2.2 52 0 0)) from MV.ofN (mLock_N _ _ _ _) hV)
                have hNm_113 : Nb (uN (mLock u.2.2 j_5 (gN u.2.2 56 0 j_5) (gN u.2.2 52 0 0)) 57 0 j_5 1) := Nb.uN (Nb.ofN (mLock_N _ _ _ _) hNm) (by decide)
                refine wloopH (σ := Heap × List Loc × Array Slot) (G := fun x => W p l e _ s m _ below meth c x.1 x.2.1 _ _ _ (F0 m 189 x.2.2 [])) (P := fun i_114 x => (True) ∧ Bd env s0 X (wM u (mAskL (uN (mLock u.2.2 j_5 (gN u.2.2 56 0 j_5) (gN u.2.2 52 0 0)) 57 0 j_5 1) (gN u.2.2 56 0 j_5) j_5 i_114)) s x.1 x.2.1 ∧ lv_has x.2.2 6 [(0, .ref (a0)), (1, .int (nI (j_5))), (2, .int (nI (gN u.2.2 56 (0) (j_5)))), (5, .int (nI (i_114)))]) (N := gN u.2.2 50 0 0) ?_ 0 (_, _, ls) (Nat.zero_le _) ⟨trivial, hB, lv_sub hl [1, 2, 3, 0] rfl⟩
                rintro i_114 ⟨H, locs, ls⟩ hi_115 ⟨hv_116, hB, hl⟩ ih189
                replace hB : Bd env s0 X (wM u (mAskL (uN (mLock u.2.2 j_5 (gN u.2.2 56 0 j_5) (gN u.2.2 52 0 0)) 57 0 j_5 1) (gN u.2.2 56 0 j_5) j_5 i_114)) s H locs := hB
                replace hl : lv_has ls 6 [(0, .ref (a0)), (1, .int (nI (j_5))), (2, .int (nI (gN u.2.2 56 (0) (j_5)))), (5, .int (nI (i_114)))] := hl
                show W p l e _ s m _ below meth c H locs _ _ _ (F0 m 189 ls [])
                have := hNm 50 0 0
                have := hV.nst
                have hV_117 : MV (mAskL (uN (mLock u.2.2 j_5 (gN u.2.2 56 0 j_5) (gN u.2.2 52 0 0)) 57 0 j_5 1) (gN u.2.2 56 0 j_5) j_5 i_114) := mAskL_V hV_112 (hV.site _) (by omega) (by show gN (mLock u.2.2 j_5 (gN u.2.2 56 0 j_5) (gN u.2.2 52 0 0)) 72 0 0 + 4 ≤ 2400; rw [mLock_N]; exact hm) _ (by omega)
                have hNm_118 : Nb (mAskL (uN (mLock u.2.2 j_5 (gN u.2.2 56 0 j_5) (gN u.2.2 52 0 0)) 57 0 j_5 1) (gN u.2.2 56 0 j_5) j_5 i_114) := mAskL_Nb hNm_113 (hV.site _) (by omega) (by show gN (mLock u.2.2 j_5 (gN u.2.2 56 0 j_5) (gN u.2.2 52 0 0)) 72 0 0 + 4 ≤ 2400; rw [mLock_N]; exact hm) (by show gN (mLock u.2.2 j_5 (gN u.2.2 56 0 j_5) (gN u.2.2 52 0 0)) 62 0 _ < 1000; rw [mLock_N]; exact h62 _) _ (by omega)
                refine lv_iload hx hb dX5_commit_189 (lv_at hl 3 rfl) ?_
                refine lv_aload_n hx hb dX5_commit_191 rfl (lv_at hl 0 rfl) ?_
                refine w_get (v := .int (nI (gN (mAskL (uN (mLock u.2.2 j_5 (gN u.2.2 56 0 j_5) (gN u.2.2 52 0 0)) 57 0 j_5 1) (gN u.2.2 56 0 j_5) j_5 i_114) 50 (0) (0)))) (fk := 0) hF hB ha0 (cn_20 env (wM u (mAskL (uN (mLock u.2.2 j_5 (gN u.2.2 56 0 j_5) (gN u.2.2 52 0 0)) 57 0 j_5 1) (gN u.2.2 56 0 j_5) j_5 i_114)) (0)) rfl in_X5 (by decide) tw_3_95 rfl rfl dX5_commit_192 ?_
                refine w_icge_n (tgt := 239) (by omega) (by have := hNm_118 50 (0) (0); have := hNm 56 0 j_5; have := hNm 52 0 0; omega) hx hb dX5_commit_195 (by decide) (fun c_119 => ?_) (fun c_119 => ?_)
                · rw [mAskL_f _ _ _ (by decide) (by decide), show gN (uN (mLock u.2.2 j_5 (gN u.2.2 56 0 j_5) (gN u.2.2 52 0 0)) 57 0 j_5 1) 50 = gN (mLock u.2.2 j_5 (gN u.2.2 56 0 j_5) (gN u.2.2 52 0 0)) 50 from rfl, mLock_N] at c_119
                  refine lv_aload_n hx hb dX5_commit_239 rfl (lv_at hl 0 rfl) ?_
                  refine w_get (v := .ref (sA u 28 0)) (fk := 7) hF hB ha0 (cn_20 env (wM u (mAskL (uN (mLock u.2.2 j_5 (gN u.2.2 56 0 j_5) (gN u.2.2 52 0 0)) 57 0 j_5 1) (gN u.2.2 56 0 j_5) j_5 i_114)) (0)) rfl in_X5 (by decide) tw_3_102 rfl rfl dX5_commit_240 ?_
                  refine lv_iload_n hx hb dX5_commit_243 rfl (lv_at hl 1 rfl) ?_
                  refine w_iald (v := .int (nI (gN (mAskL (uN (mLock u.2.2 j_5 (gN u.2.2 56 0 j_5) (gN u.2.2 52 0 0)) 57 0 j_5 1) (gN u.2.2 56 0 j_5) j_5 i_114) 57 (0) (j_5)))) hF hB ⟨hM 28 (by decide), rfl⟩ (cn_28 env (wM u (mAskL (uN (mLock u.2.2 j_5 (gN u.2.2 56 0 j_5) (gN u.2.2 52 0 0)) 57 0 j_5 1) (gN u.2.2 56 0 j_5) j_5 i_114)) (0)) (by omega) rfl (by decide) dX5_commit_244 ?_
                  have ec_120 : mCommit u.2.2 j_5 = (mAskL (uN (mLock u.2.2 j_5 (gN u.2.2 56 0 j_5) (gN u.2.2 52 0 0)) 57 0 j_5 1) (gN u.2.2 56 0 j_5) j_5 i_114) := by rw [mCommit, if_neg (by simp [c_101]), if_neg (by simp [c_105]), if_neg (by simp [c_106]), show gN u.2.2 50 0 0 = i_114 by omega]
                  exact w_iret (v := nI (gN (mAskL (uN (mLock u.2.2 j_5 (gN u.2.2 56 0 j_5) (gN u.2.2 52 0 0)) 57 0 j_5 1) (gN u.2.2 56 0 j_5) j_5 i_114) 57 (0) (j_5))) hF hr hlocks hB (⟨by simp only [mcommit, hj_6, if_pos c_8]; rw [ec_120], by simp only [mcommit, hj_6, if_pos c_8]; rw [ec_120]⟩) dX5_commit_245
                · rw [mAskL_f _ _ _ (by decide) (by decide), show gN (uN (mLock u.2.2 j_5 (gN u.2.2 56 0 j_5) (gN u.2.2 52 0 0)) 57 0 j_5 1) 50 = gN (mLock u.2.2 j_5 (gN u.2.2 56 0 j_5) (gN u.2.2 52 0 0)) 50 from rfl, mLock_N] at c_119
                  refine lv_iload hx hb dX5_commit_198 (lv_at hl 3 rfl) ?_
                  refine lv_iload_n hx hb dX5_commit_200 rfl (lv_at hl 2 rfl) ?_
                  refine w_iceq_n (tgt := 233) (by omega) (by have := hNm 56 (0) (j_5); omega) hx hb dX5_commit_201 (by decide) (fun c_121 => ?_) (fun c_121 => ?_)
                  · refine lv_iinc (v := nI (i_114 + 1)) (lv' := [(5, .int (nI (i_114 + 1))), (0, .ref (a0)), (1, .int (nI (j_5))), (2, .int (nI (gN u.2.2 56 (0) (j_5))))]) hx hb dX5_commit_233 hl (k := 3) rfl (nI_add _ _) (by decide) rfl (fun ls hl => ?_)
                    refine lv_goto (tgt := 189) hx hb dX5_commit_236 (by decide) ?_
                    have em_122 : (mAskL (uN (mLock u.2.2 j_5 (gN u.2.2 56 0 j_5) (gN u.2.2 52 0 0)) 57 0 j_5 1) (gN u.2.2 56 0 j_5) j_5 (i_114 + 1)) = (mAskL (uN (mLock u.2.2 j_5 (gN u.2.2 56 0 j_5) (gN u.2.2 52 0 0)) 57 0 j_5 1) (gN u.2.2 56 0 j_5) j_5 i_114) := by rw [mAskL_s, if_neg (fun z => z.1 c_121)]
                    exact ih189 (H, locs, ls) (by omega) ⟨trivial, (by rw [em_122]; exact hB), by exact lv_sub hl [1, 2, 3, 0] rfl⟩
                  · refine lv_aload_n hx hb dX5_commit_204 rfl (lv_at hl 0 rfl) ?_
                    refine lv_iload_n hx hb dX5_commit_205 rfl (lv_at hl 1 rfl) ?_
                    refine lv_iload hx hb dX5_commit_206 (lv_at hl 3 rfl) ?_
                    refine w_ci (r_V (As := [.int (nI (j_5)), .int (nI (i_114))]) (rest := []) hF hB (c_X5_writesAt l env s0 X (wM u (mAskL (uN (mLock u.2.2 j_5 (gN u.2.2 56 0 j_5) (gN u.2.2 52 0 0)) 57 0 j_5 1) (gN u.2.2 56 0 j_5) j_5 i_114)) (a0) (0) (ha0) (j_5) (i_114) hM hV_117 hNm_118 (by omega) (by omega)) cv_X5_writesAt tw_4_34 ⟨rfl, rfl, by decide, by decide⟩ (hB.recv ha0 (cn_20 env (wM u (mAskL (uN (mLock u.2.2 j_5 (gN u.2.2 56 0 j_5) (gN u.2.2 52 0 0)) 57 0 j_5 1) (gN u.2.2 56 0 j_5) j_5 i_114)) (0)) rfl) rfl hl.1 rfl (lv_room (by decide)) dX5_commit_208 ⟨Nat.le_of_ble_eq_true rfl, Nat.le_of_ble_eq_true rfl⟩) hB (fun r_123 u_125 H locs hq_124 hB => ?_)
                    obtain ⟨rfl, rfl⟩ := hq_124
                    show W p l e _ s m _ below meth c H locs _ _ _ (F0 m _ ls [.int (b2i (mWritesAt (mAskL (uN (mLock u.2.2 j_5 (gN u.2.2 56 0 j_5) (gN u.2.2 52 0 0)) 57 0 j_5 1) (gN u.2.2 56 0 j_5) j_5 i_114) (j_5) (i_114)))])
                    refine w_ifeq_b (tgt := 233) hx hb dX5_commit_211 (by decide) (fun c_126 => ?_) (fun c_126 => ?_)
                    · refine lv_iinc (v := nI (i_114 + 1)) (lv' := [(5, .int (nI (i_114 + 1))), (0, .ref (a0)), (1, .int (nI (j_5))), (2, .int (nI (gN u.2.2 56 (0) (j_5))))]) hx hb dX5_commit_233 hl (k := 3) rfl (nI_add _ _) (by decide) rfl (fun ls hl => ?_)
                      refine lv_goto (tgt := 189) hx hb dX5_commit_236 (by decide) ?_
                      have em_127 : (mAskL (uN (mLock u.2.2 j_5 (gN u.2.2 56 0 j_5) (gN u.2.2 52 0 0)) 57 0 j_5 1) (gN u.2.2 56 0 j_5) j_5 (i_114 + 1)) = (mAskL (uN (mLock u.2.2 j_5 (gN u.2.2 56 0 j_5) (gN u.2.2 52 0 0)) 57 0 j_5 1) (gN u.2.2 56 0 j_5) j_5 i_114) := by rw [mAskL_s, if_neg (fun z => by rw [c_126] at z; exact absurd z.2 (by decide))]
                      exact ih189 (H, locs, ls) (by omega) ⟨trivial, (by rw [em_127]; exact hB), by exact lv_sub hl [1, 2, 3, 0] rfl⟩
                    · refine lv_aload_n hx hb dX5_commit_214 rfl (lv_at hl 0 rfl) ?_
                      refine lv_iconst (v := nI 0) hx hb dX5_commit_215 (by decide) ?_
                      refine lv_iload hx hb dX5_commit_216 (lv_at hl 3 rfl) ?_
                      refine lv_iload_n hx hb dX5_commit_218 rfl (lv_at hl 2 rfl) ?_
                      refine lv_iload_n hx hb dX5_commit_219 rfl (lv_at hl 1 rfl) ?_
                      refine w_cv (r_V (As := [.int (nI (0)), .int (nI (i_114)), .int (nI (gN u.2.2 56 (0) (j_5))), .int (nI (j_5))]) (rest := []) hF hB (c_X5_send l env s0 X (wM u (mAskL (uN (mLock u.2.2 j_5 (gN u.2.2 56 0 j_5) (gN u.2.2 52 0 0)) 57 0 j_5 1) (gN u.2.2 56 0 j_5) j_5 i_114)) (a0) (0) (ha0) (0) (i_114) (gN u.2.2 56 (0) (j_5)) (j_5) hM hV_117 hNm_118 (by show gN (mAskL (uN (mLock u.2.2 j_5 (gN u.2.2 56 0 j_5) (gN u.2.2 52 0 0)) 57 0 j_5 1) (gN u.2.2 56 0 j_5) j_5 i_114) 72 0 0 < 2400; have h1 := mAskL_72 (uN (mLock u.2.2 j_5 (gN u.2.2 56 0 j_5) (gN u.2.2 52 0 0)) 57 0 j_5 1) (gN u.2.2 56 0 j_5) j_5 i_114; rw [show gN (uN (mLock u.2.2 j_5 (gN u.2.2 56 0 j_5) (gN u.2.2 52 0 0)) 57 0 j_5 1) 72 = gN (mLock u.2.2 j_5 (gN u.2.2 56 0 j_5) (gN u.2.2 52 0 0)) 72 from rfl, mLock_N] at h1; omega) (by decide) (by omega) (hV.site _) (by omega)) cv_X5_send tw_4_26 ⟨rfl, rfl, by decide, by decide⟩ (hB.recv ha0 (cn_20 env (wM u (mAskL (uN (mLock u.2.2 j_5 (gN u.2.2 56 0 j_5) (gN u.2.2 52 0 0)) 57 0 j_5 1) (gN u.2.2 56 0 j_5) j_5 i_114)) (0)) rfl) rfl hl.1 rfl (lv_room (by decide)) dX5_commit_220 ⟨Nat.le_of_ble_eq_true rfl, Nat.le_of_ble_eq_true rfl⟩) hB (fun u_130 H locs hq_129 hB => ?_)
                      obtain rfl := hq_129
                      replace hB : Bd env s0 X (wM u (mSend ((mAskL (uN (mLock u.2.2 j_5 (gN u.2.2 56 0 j_5) (gN u.2.2 52 0 0)) 57 0 j_5 1) (gN u.2.2 56 0 j_5) j_5 i_114)) (0) (i_114) (gN u.2.2 56 (0) (j_5)) (j_5))) s H locs := hB
                      have hV_131 : MV (mSend ((mAskL (uN (mLock u.2.2 j_5 (gN u.2.2 56 0 j_5) (gN u.2.2 52 0 0)) 57 0 j_5 1) (gN u.2.2 56 0 j_5) j_5 i_114)) (0) (i_114) (gN u.2.2 56 (0) (j_5)) (j_5)) := mSend_V hV_117 (by omega) (hV.site _) (by omega) (by show gN (mAskL (uN (mLock u.2.2 j_5 (gN u.2.2 56 0 j_5) (gN u.2.2 52 0 0)) 57 0 j_5 1) (gN u.2.2 56 0 j_5) j_5 i_114) 72 0 0 < 2400; have h1 := mAskL_72 (uN (mLock u.2.2 j_5 (gN u.2.2 56 0 j_5) (gN u.2.2 52 0 0)) 57 0 j_5 1) (gN u.2.2 56 0 j_5) j_5 i_114; rw [show gN (uN (mLock u.2.2 j_5 (gN u.2.2 56 0 j_5) (gN u.2.2 52 0 0)) 57 0 j_5 1) 72 = gN (mLock u.2.2 j_5 (gN u.2.2 56 0 j_5) (gN u.2.2 52 0 0)) 72 from rfl, mLock_N] at h1; omega)
                      have hNm_132 : Nb (mSend ((mAskL (uN (mLock u.2.2 j_5 (gN u.2.2 56 0 j_5) (gN u.2.2 52 0 0)) 57 0 j_5 1) (gN u.2.2 56 0 j_5) j_5 i_114)) (0) (i_114) (gN u.2.2 56 (0) (j_5)) (j_5)) := mSend_Nb hNm_118 (by decide) (by omega) (hV.site _) (by omega) (by show gN (mAskL (uN (mLock u.2.2 j_5 (gN u.2.2 56 0 j_5) (gN u.2.2 52 0 0)) 57 0 j_5 1) (gN u.2.2 56 0 j_5) j_5 i_114) 72 0 0 < 2400; have h1 := mAskL_72 (uN (mLock u.2.2 j_5 (gN u.2.2 56 0 j_5) (gN u.2.2 52 0 0)) 57 0 j_5 1) (gN u.2.2 56 0 j_5) j_5 i_114; rw [show gN (uN (mLock u.2.2 j_5 (gN u.2.2 56 0 j_5) (gN u.2.2 52 0 0)) 57 0 j_5 1) 72 = gN (mLock u.2.2 j_5 (gN u.2.2 56 0 j_5) (gN u.2.2 52 0 0)) 72 from rfl, mLock_N] at h1; omega)
                      refine lv_aload_n hx hb dX5_commit_223 rfl (lv_at hl 0 rfl) ?_
                      refine w_get (v := .ref (sA u 33 0)) (fk := 12) hF hB ha0 (cn_20 env (wM u (mSend ((mAskL (uN (mLock u.2.2 j_5 (gN u.2.2 56 0 j_5) (gN u.2.2 52 0 0)) 57 0 j_5 1) (gN u.2.2 56 0 j_5) j_5 i_114)) (0) (i_114) (gN u.2.2 56 (0) (j_5)) (j_5))) (0)) rfl in_X5 (by decide) tw_3_107 rfl rfl dX5_commit_224 ?_
                      refine lv_iload_n hx hb dX5_commit_227 rfl (lv_at hl 1 rfl) ?_
                      refine lv_dup2_11 hx hb dX5_commit_228 rfl rfl ?_
                      refine w_iald (v := .int (nI (gN (mSend ((mAskL (uN (mLock u.2.2 j_5 (gN u.2.2 56 0 j_5) (gN u.2.2 52 0 0)) 57 0 j_5 1) (gN u.2.2 56 0 j_5) j_5 i_114)) (0) (i_114) (gN u.2.2 56 (0) (j_5)) (j_5)) 62 (0) (j_5)))) hF hB ⟨hM 33 (by decide), rfl⟩ (cn_33 env (wM u (mSend ((mAskL (uN (mLock u.2.2 j_5 (gN u.2.2 56 0 j_5) (gN u.2.2 52 0 0)) 57 0 j_5 1) (gN u.2.2 56 0 j_5) j_5 i_114)) (0) (i_114) (gN u.2.2 56 (0) (j_5)) (j_5))) (0)) (by omega) rfl (by decide) dX5_commit_229 ?_
                      refine lv_iconst (v := nI 1) hx hb dX5_commit_230 (by decide) ?_
                      refine w_iadd_n hx hb dX5_commit_231 ?_
                      refine w_iast (x := nI ((gN (mSend ((mAskL (uN (mLock u.2.2 j_5 (gN u.2.2 56 0 j_5) (gN u.2.2 52 0 0)) 57 0 j_5 1) (gN u.2.2 56 0 j_5) j_5 i_114)) (0) (i_114) (gN u.2.2 56 (0) (j_5)) (j_5)) 62 (0) (j_5)) + 1)) hF hB ⟨hM 33 (by decide), rfl⟩ (wM u (uN (mSend ((mAskL (uN (mLock u.2.2 j_5 (gN u.2.2 56 0 j_5) (gN u.2.2 52 0 0)) 57 0 j_5 1) (gN u.2.2 56 0 j_5) j_5 i_114)) (0) (i_114) (gN u.2.2 56 (0) (j_5)) (j_5)) 62 (0) (j_5) ((gN (mSend ((mAskL (uN (mLock u.2.2 j_5 (gN u.2.2 56 0 j_5) (gN u.2.2 52 0 0)) 57 0 j_5 1) (gN u.2.2 56 0 j_5) j_5 i_114)) (0) (i_114) (gN u.2.2 56 (0) (j_5)) (j_5)) 62 (0) (j_5)) + 1))) (cn_33 env (wM u (mSend ((mAskL (uN (mLock u.2.2 j_5 (gN u.2.2 56 0 j_5) (gN u.2.2 52 0 0)) 57 0 j_5 1) (gN u.2.2 56 0 j_5) j_5 i_114)) (0) (i_114) (gN u.2.2 56 (0) (j_5)) (j_5))) (0)) (by omega) (by decide) rfl rfl (cu_N62 env (wM u (mSend ((mAskL (uN (mLock u.2.2 j_5 (gN u.2.2 56 0 j_5) (gN u.2.2 52 0 0)) 57 0 j_5 1) (gN u.2.2 56 0 j_5) j_5 i_114)) (0) (i_114) (gN u.2.2 56 (0) (j_5)) (j_5))) (0) (j_5) ((gN (mSend ((mAskL (uN (mLock u.2.2 j_5 (gN u.2.2 56 0 j_5) (gN u.2.2 52 0 0)) 57 0 j_5 1) (gN u.2.2 56 0 j_5) j_5 i_114)) (0) (i_114) (gN u.2.2 56 (0) (j_5)) (j_5)) 62 (0) (j_5)) + 1)) dX5_commit_232 (fun H locs hB => ?_)
                      refine lv_iinc (v := nI (i_114 + 1)) (lv' := [(5, .int (nI (i_114 + 1))), (0, .ref (a0)), (1, .int (nI (j_5))), (2, .int (nI (gN u.2.2 56 (0) (j_5))))]) hx hb dX5_commit_233 hl (k := 3) rfl (nI_add _ _) (by decide) rfl (fun ls hl => ?_)
                      refine lv_goto (tgt := 189) hx hb dX5_commit_236 (by decide) ?_
                      have em_133 : (mAskL (uN (mLock u.2.2 j_5 (gN u.2.2 56 0 j_5) (gN u.2.2 52 0 0)) 57 0 j_5 1) (gN u.2.2 56 0 j_5) j_5 (i_114 + 1)) = (uN (mSend ((mAskL (uN (mLock u.2.2 j_5 (gN u.2.2 56 0 j_5) (gN u.2.2 52 0 0)) 57 0 j_5 1) (gN u.2.2 56 0 j_5) j_5 i_114)) (0) (i_114) (gN u.2.2 56 (0) (j_5)) (j_5)) 62 (0) (j_5) ((gN (mSend ((mAskL (uN (mLock u.2.2 j_5 (gN u.2.2 56 0 j_5) (gN u.2.2 52 0 0)) 57 0 j_5 1) (gN u.2.2 56 0 j_5) j_5 i_114)) (0) (i_114) (gN u.2.2 56 (0) (j_5)) (j_5)) 62 (0) (j_5)) + 1)) := by rw [mAskL_s, if_pos ⟨c_121, c_126⟩]
                      exact ih189 (H, locs, ls) (by omega) ⟨trivial, (by rw [em_133]; exact hB), by exact lv_sub hl [1, 2, 3, 0] rfl⟩
              · refine lv_aload_n hx hb dX5_commit_165 rfl (lv_at hl 0 rfl) ?_
                refine lv_iload_n hx hb dX5_commit_166 rfl (lv_at hl 1 rfl) ?_
                refine w_cv (r_V (As := [.int (nI (j_5))]) (rest := []) hF hB (c_X5_becomes l env s0 X u (a0) (0) (ha0) (j_5) hM hV hNm (by omega) (hcm _ hjl_7 c_8) (h68 _) hm) cv_X5_becomes tw_4_14 ⟨rfl, rfl, by decide, by decide⟩ (hB.recv ha0 (cn_20 env u (0)) rfl) rfl hl.1 rfl (lv_room (by decide)) dX5_commit_167 ⟨Nat.le_of_ble_eq_true rfl, Nat.le_of_ble_eq_true rfl⟩) hB (fun u_136 H locs hq_135 hB => ?_)
                obtain rfl := hq_135
                replace hB : Bd env s0 X (wM u (mBecomes u.2.2 (j_5))) s H locs := hB
                have hV_137 : MV (mBecomes u.2.2 (j_5)) := mBecomes_V hV (by omega) (hcm _ hjl_7 c_8) hm
                have hNm_138 : Nb (mBecomes u.2.2 (j_5)) := mBecomes_Nb hV hNm (by omega) (hcm _ hjl_7 c_8) (h68 _) hm
                refine lv_goto (tgt := 239) hx hb dX5_commit_170 (by decide) ?_
                refine lv_aload_n hx hb dX5_commit_239 rfl (lv_at hl 0 rfl) ?_
                refine w_get (v := .ref (sA u 28 0)) (fk := 7) hF hB ha0 (cn_20 env (wM u (mBecomes u.2.2 (j_5))) (0)) rfl in_X5 (by decide) tw_3_102 rfl rfl dX5_commit_240 ?_
                refine lv_iload_n hx hb dX5_commit_243 rfl (lv_at hl 1 rfl) ?_
                refine w_iald (v := .int (nI (gN (mBecomes u.2.2 (j_5)) 57 (0) (j_5)))) hF hB ⟨hM 28 (by decide), rfl⟩ (cn_28 env (wM u (mBecomes u.2.2 (j_5))) (0)) (by omega) rfl (by decide) dX5_commit_244 ?_
                have ec_139 : mCommit u.2.2 j_5 = (mBecomes u.2.2 (j_5)) := by rw [mCommit, if_neg (by simp [c_101]), if_neg (by simp [c_105]), if_pos c_106]
                exact w_iret (v := nI (gN (mBecomes u.2.2 (j_5)) 57 (0) (j_5))) hF hr hlocks hB (⟨by simp only [mcommit, hj_6, if_pos c_8]; rw [ec_139], by simp only [mcommit, hj_6, if_pos c_8]; rw [ec_139]⟩) dX5_commit_245
            · refine lv_aload_n hx hb dX5_commit_150 rfl (lv_at hl 0 rfl) ?_
              refine w_get (v := .ref (sA u 28 0)) (fk := 7) hF hB ha0 (cn_20 env u (0)) rfl in_X5 (by decide) tw_3_102 rfl rfl dX5_commit_151 ?_
              refine lv_iload_n hx hb dX5_commit_154 rfl (lv_at hl 1 rfl) ?_
              refine lv_iconst (v := nI 3) hx hb dX5_commit_155 (by decide) ?_
              refine w_iast (x := nI (3)) hF hB ⟨hM 28 (by decide), rfl⟩ (wM u (uN u.2.2 57 (0) (j_5) (3))) (cn_28 env u (0)) (by omega) (by decide) rfl rfl (cu_N57 env u (0) (j_5) (3)) dX5_commit_156 (fun H locs hB => ?_)
              refine lv_goto (tgt := 239) hx hb dX5_commit_157 (by decide) ?_
              refine lv_aload_n hx hb dX5_commit_239 rfl (lv_at hl 0 rfl) ?_
              refine w_get (v := .ref (sA u 28 0)) (fk := 7) hF hB ha0 (cn_20 env (wM u (uN u.2.2 57 (0) (j_5) (3))) (0)) rfl in_X5 (by decide) tw_3_102 rfl rfl dX5_commit_240 ?_
              refine lv_iload_n hx hb dX5_commit_243 rfl (lv_at hl 1 rfl) ?_
              refine w_iald (v := .int (nI (3))) hF hB ⟨hM 28 (by decide), rfl⟩ (cn_28 env (wM u (uN u.2.2 57 (0) (j_5) (3))) (0)) (by omega) (by simp [wM, vN, vB, vI, vJ, uN, uB, uI, uJ, gN, gB, gI, gJ, up3]) (by decide) dX5_commit_244 ?_
              have ec_140 : mCommit u.2.2 j_5 = (uN u.2.2 57 (0) (j_5) (3)) := by rw [mCommit, if_neg (by simp [c_101]), if_pos c_105]
              exact w_iret (v := nI 3) hF hr hlocks hB (⟨by simp only [mcommit, hj_6, if_pos c_8]; rw [ec_140], by simp only [mcommit, hj_6, if_pos c_8]; rw [ec_140]; simp [uN, gN, up3]⟩) dX5_commit_245
          · refine lv_aload_n hx hb dX5_commit_131 rfl (lv_at hl 0 rfl) ?_
            refine w_get (v := .ref (sA u 28 0)) (fk := 7) hF hB ha0 (cn_20 env u (0)) rfl in_X5 (by decide) tw_3_102 rfl rfl dX5_commit_132 ?_
            refine lv_iload_n hx hb dX5_commit_135 rfl (lv_at hl 1 rfl) ?_
            refine lv_iconst (v := nI 2) hx hb dX5_commit_136 (by decide) ?_
            refine w_iast (x := nI (2)) hF hB ⟨hM 28 (by decide), rfl⟩ (wM u (uN u.2.2 57 (0) (j_5) (2))) (cn_28 env u (0)) (by omega) (by decide) rfl rfl (cu_N57 env u (0) (j_5) (2)) dX5_commit_137 (fun H locs hB => ?_)
            refine lv_goto (tgt := 239) hx hb dX5_commit_138 (by decide) ?_
            refine lv_aload_n hx hb dX5_commit_239 rfl (lv_at hl 0 rfl) ?_
            refine w_get (v := .ref (sA u 28 0)) (fk := 7) hF hB ha0 (cn_20 env (wM u (uN u.2.2 57 (0) (j_5) (2))) (0)) rfl in_X5 (by decide) tw_3_102 rfl rfl dX5_commit_240 ?_
            refine lv_iload_n hx hb dX5_commit_243 rfl (lv_at hl 1 rfl) ?_
            refine w_iald (v := .int (nI (2))) hF hB ⟨hM 28 (by decide), rfl⟩ (cn_28 env (wM u (uN u.2.2 57 (0) (j_5) (2))) (0)) (by omega) (by simp [wM, vN, vB, vI, vJ, uN, uB, uI, uJ, gN, gB, gI, gJ, up3]) (by decide) dX5_commit_244 ?_
            have ec_141 : mCommit u.2.2 j_5 = (uN u.2.2 57 (0) (j_5) (2)) := by rw [mCommit, if_pos c_101]
            exact w_iret (v := nI 2) hF hr hlocks hB (⟨by simp only [mcommit, hj_6, if_pos c_8]; rw [ec_141], by simp only [mcommit, hj_6, if_pos c_8]; rw [ec_141]; simp [uN, gN, up3]⟩) dX5_commit_245
        · refine lv_iload_n hx hb dX5_commit_58 rfl (lv_at hl 3 rfl) ?_
          refine w_ifne_b (tgt := 77) hx hb dX5_commit_59 (by decide) (fun c_142 => ?_) (fun c_142 => ?_)
          · refine lv_iconst (v := nI 1) hx hb dX5_commit_77 (by decide) ?_
            refine lv_goto (tgt := 82) hx hb dX5_commit_78 (by decide) ?_
            refine lv_istore_n (lv' := [(3, .int (nI (1))), (0, .ref (a0)), (1, .int (nI (j_5))), (2, .int (nI (gN u.2.2 56 (0) (j_5)))), (4, .int (b2i (anyN (mAwayQ u.2.2 j_5 (gN u.2.2 56 0 j_5)) (i_95)))), (5, .int (nI (i_95)))]) hx hb dX5_commit_82 rfl hl (by decide) rfl (fun ls hl => ?_)
            refine lv_iload hx hb dX5_commit_83 (lv_at hl 4 rfl) ?_
            refine w_ifne_b (tgt := 114) hx hb dX5_commit_85 (by decide) (fun c_143 => ?_) (fun c_143 => ?_)
            · refine lv_iconst (v := nI 1) hx hb dX5_commit_114 (by decide) ?_
              refine lv_goto (tgt := 119) hx hb dX5_commit_115 (by decide) ?_
              refine lv_istore (lv' := [(4, .int (nI (1))), (3, .int (nI (1))), (0, .ref (a0)), (1, .int (nI (j_5))), (2, .int (nI (gN u.2.2 56 (0) (j_5)))), (5, .int (nI (i_95)))]) hx hb dX5_commit_119 hl (by decide) rfl (fun ls hl => ?_)
              refine lv_iinc (v := nI (i_95 + 1)) (lv' := [(5, .int (nI (i_95 + 1))), (4, .int (nI (1))), (3, .int (nI (1))), (0, .ref (a0)), (1, .int (nI (j_5))), (2, .int (nI (gN u.2.2 56 (0) (j_5))))]) hx hb dX5_commit_121 hl (k := 5) rfl (nI_add _ _) (by decide) rfl (fun ls hl => ?_)
              refine lv_goto (tgt := 49) hx hb dX5_commit_124 (by decide) ?_
              have ea_144 : (decide (0 < mPlain u.2.2 j_5) || anyN (mAddQ u.2.2 j_5) (i_95 + 1)) = true := by first | (simp [allN_s, anyN_s, cntN_s, sumL_s, Int64.add_assoc, mAddQ, mAwayQ, c_100, c_142, c_143] <;> omega) | grind [allN_s, anyN_s, cntN_s, sumL_s, Int64.add_assoc, mAddQ, mAwayQ]
              have ea_145 : anyN (mAwayQ u.2.2 j_5 (gN u.2.2 56 0 j_5)) (i_95 + 1) = true := by first | (simp [allN_s, anyN_s, cntN_s, sumL_s, Int64.add_assoc, mAddQ, mAwayQ, c_100, c_142, c_143] <;> omega) | grind [allN_s, anyN_s, cntN_s, sumL_s, Int64.add_assoc, mAddQ, mAwayQ]
              exact ih49 (H, locs, ls) (by omega) ⟨trivial, hB, by show lv_has ls 6 [(0, .ref (a0)), (1, .int (nI (j_5))), (2, .int (nI (gN u.2.2 56 (0) (j_5)))), (3, .int (b2i ((decide (0 < mPlain u.2.2 j_5) || anyN (mAddQ u.2.2 j_5) (i_95 + 1))))), (4, .int (b2i (anyN (mAwayQ u.2.2 j_5 (gN u.2.2 56 0 j_5)) (i_95 + 1)))), (5, .int (nI (i_95 + 1)))]; rw [ea_144, ea_145]; exact lv_sub hl [3, 4, 5, 2, 1, 0] rfl⟩
            · refine lv_aload_n hx hb dX5_commit_88 rfl (lv_at hl 1 rfl) ?_
              refine w_get (v := .ref (sA u 35 0)) (fk := 14) hF hB ha0 (cn_20 env u (0)) rfl in_X5 (by decide) tw_3_109 rfl rfl dX5_commit_89 ?_
              refine lv_bipush (v := nI 12) hx hb dX5_commit_92 (by decide) ?_
              refine lv_iload_n hx hb dX5_commit_94 rfl (lv_at hl 2 rfl) ?_
              refine w_imul_n hx hb dX5_commit_95 ?_
              refine lv_iload hx hb dX5_commit_96 (lv_at hl 5 rfl) ?_
              refine w_iadd_n hx hb dX5_commit_98 ?_
              refine w_zald (v := .int (b2i (gB u.2.2 64 (0) ((12 * j_5) + i_95)))) hF hB ⟨hM 35 (by decide), rfl⟩ (cn_35 env u (0)) (by omega) rfl (by decide) dX5_commit_99 ?_
              refine w_ifeq_b (tgt := 118) hx hb dX5_commit_100 (by decide) (fun c_146 => ?_) (fun c_146 => ?_)
              · refine lv_iconst (v := nI 0) hx hb dX5_commit_118 (by decide) ?_
                refine lv_istore (lv' := [(4, .int (nI (0))), (3, .int (nI (1))), (0, .ref (a0)), (1, .int (nI (j_5))), (2, .int (nI (gN u.2.2 56 (0) (j_5)))), (5, .int (nI (i_95)))]) hx hb dX5_commit_119 hl (by decide) rfl (fun ls hl => ?_)
                refine lv_iinc (v := nI (i_95 + 1)) (lv' := [(5, .int (nI (i_95 + 1))), (4, .int (nI (0))), (3, .int (nI (1))), (0, .ref (a0)), (1, .int (nI (j_5))), (2, .int (nI (gN u.2.2 56 (0) (j_5))))]) hx hb dX5_commit_121 hl (k := 5) rfl (nI_add _ _) (by decide) rfl (fun ls hl => ?_)
                refine lv_goto (tgt := 49) hx hb dX5_commit_124 (by decide) ?_
                have ea_147 : (decide (0 < mPlain u.2.2 j_5) || anyN (mAddQ u.2.2 j_5) (i_95 + 1)) = true := by first | (simp [allN_s, anyN_s, cntN_s, sumL_s, Int64.add_assoc, mAddQ, mAwayQ, c_100, c_142, c_143, c_146] <;> omega) | grind [allN_s, anyN_s, cntN_s, sumL_s, Int64.add_assoc, mAddQ, mAwayQ]
                have ea_148 : anyN (mAwayQ u.2.2 j_5 (gN u.2.2 56 0 j_5)) (i_95 + 1) = false := by first | (simp [allN_s, anyN_s, cntN_s, sumL_s, Int64.add_assoc, mAddQ, mAwayQ, c_100, c_142, c_143, c_146] <;> omega) | grind [allN_s, anyN_s, cntN_s, sumL_s, Int64.add_assoc, mAddQ, mAwayQ]
                exact ih49 (H, locs, ls) (by omega) ⟨trivial, hB, by show lv_has ls 6 [(0, .ref (a0)), (1, .int (nI (j_5))), (2, .int (nI (gN u.2.2 56 (0) (j_5)))), (3, .int (b2i ((decide (0 < mPlain u.2.2 j_5) || anyN (mAddQ u.2.2 j_5) (i_95 + 1))))), (4, .int (b2i (anyN (mAwayQ u.2.2 j_5 (gN u.2.2 56 0 j_5)) (i_95 + 1)))), (5, .int (nI (i_95 + 1)))]; rw [ea_147, ea_148]; exact lv_sub hl [3, 4, 5, 2, 1, 0] rfl⟩
              · refine lv_aload_n hx hb dX5_commit_103 rfl (lv_at hl 1 rfl) ?_
                refine w_get (v := .ref (sA u 24 0)) (fk := 3) hF hB ha0 (cn_20 env u (0)) rfl in_X5 (by decide) tw_3_98 rfl rfl dX5_commit_104 ?_
                refine lv_iload hx hb dX5_commit_107 (lv_at hl 5 rfl) ?_
                refine w_iald (v := .int (nI (gN u.2.2 53 (0) (i_95)))) hF hB ⟨hM 24 (by decide), rfl⟩ (cn_24 env u (0)) (by omega) rfl (by decide) dX5_commit_109 ?_
                refine lv_iload_n hx hb dX5_commit_110 rfl (lv_at hl 3 rfl) ?_
                refine w_iceq_n (tgt := 118) (by have := hNm 53 (0) (i_95); omega) (by have := hNm 56 (0) (j_5); omega) hx hb dX5_commit_111 (by decide) (fun c_149 => ?_) (fun c_149 => ?_)
                · refine lv_iconst (v := nI 0) hx hb dX5_commit_118 (by decide) ?_
                  refine lv_istore (lv' := [(4, .int (nI (0))), (3, .int (nI (1))), (0, .ref (a0)), (1, .int (nI (j_5))), (2, .int (nI (gN u.2.2 56 (0) (j_5)))), (5, .int (nI (i_95)))]) hx hb dX5_commit_119 hl (by decide) rfl (fun ls hl => ?_)
                  refine lv_iinc (v := nI (i_95 + 1)) (lv' := [(5, .int (nI (i_95 + 1))), (4, .int (nI (0))), (3, .int (nI (1))), (0, .ref (a0)), (1, .int (nI (j_5))), (2, .int (nI (gN u.2.2 56 (0) (j_5))))]) hx hb dX5_commit_121 hl (k := 5) rfl (nI_add _ _) (by decide) rfl (fun ls hl => ?_)
                  refine lv_goto (tgt := 49) hx hb dX5_commit_124 (by decide) ?_
                  have ea_150 : (decide (0 < mPlain u.2.2 j_5) || anyN (mAddQ u.2.2 j_5) (i_95 + 1)) = true := by first | (simp [allN_s, anyN_s, cntN_s, sumL_s, Int64.add_assoc, mAddQ, mAwayQ, c_100, c_142, c_143, c_146, c_149] <;> omega) | grind [allN_s, anyN_s, cntN_s, sumL_s, Int64.add_assoc, mAddQ, mAwayQ]
                  have ea_151 : anyN (mAwayQ u.2.2 j_5 (gN u.2.2 56 0 j_5)) (i_95 + 1) = false := by first | (simp [allN_s, anyN_s, cntN_s, sumL_s, Int64.add_assoc, mAddQ, mAwayQ, c_100, c_142, c_143, c_146, c_149] <;> omega) | grind [allN_s, anyN_s, cntN_s, sumL_s, Int64.add_assoc, mAddQ, mAwayQ]
                  exact ih49 (H, locs, ls) (by omega) ⟨trivial, hB, by show lv_has ls 6 [(0, .ref (a0)), (1, .int (nI (j_5))), (2, .int (nI (gN u.2.2 56 (0) (j_5)))), (3, .int (b2i ((decide (0 < mPlain u.2.2 j_5) || anyN (mAddQ u.2.2 j_5) (i_95 + 1))))), (4, .int (b2i (anyN (mAwayQ u.2.2 j_5 (gN u.2.2 56 0 j_5)) (i_95 + 1)))), (5, .int (nI (i_95 + 1)))]; rw [ea_150, ea_151]; exact lv_sub hl [3, 4, 5, 2, 1, 0] rfl⟩
                · refine lv_iconst (v := nI 1) hx hb dX5_commit_114 (by decide) ?_
                  refine lv_goto (tgt := 119) hx hb dX5_commit_115 (by decide) ?_
                  refine lv_istore (lv' := [(4, .int (nI (1))), (3, .int (nI (1))), (0, .ref (a0)), (1, .int (nI (j_5))), (2, .int (nI (gN u.2.2 56 (0) (j_5)))), (5, .int (nI (i_95)))]) hx hb dX5_commit_119 hl (by decide) rfl (fun ls hl => ?_)
                  refine lv_iinc (v := nI (i_95 + 1)) (lv' := [(5, .int (nI (i_95 + 1))), (4, .int (nI (1))), (3, .int (nI (1))), (0, .ref (a0)), (1, .int (nI (j_5))), (2, .int (nI (gN u.2.2 56 (0) (j_5))))]) hx hb dX5_commit_121 hl (k := 5) rfl (nI_add _ _) (by decide) rfl (fun ls hl => ?_)
                  refine lv_goto (tgt := 49) hx hb dX5_commit_124 (by decide) ?_
                  have ea_152 : (decide (0 < mPlain u.2.2 j_5) || anyN (mAddQ u.2.2 j_5) (i_95 + 1)) = true := by first | (simp [allN_s, anyN_s, cntN_s, sumL_s, Int64.add_assoc, mAddQ, mAwayQ, c_100, c_142, c_143, c_146, c_149] <;> omega) | grind [allN_s, anyN_s, cntN_s, sumL_s, Int64.add_assoc, mAddQ, mAwayQ]
                  have ea_153 : anyN (mAwayQ u.2.2 j_5 (gN u.2.2 56 0 j_5)) (i_95 + 1) = true := by first | (simp [allN_s, anyN_s, cntN_s, sumL_s, Int64.add_assoc, mAddQ, mAwayQ, c_100, c_142, c_143, c_146, c_149] <;> omega) | grind [allN_s, anyN_s, cntN_s, sumL_s, Int64.add_assoc, mAddQ, mAwayQ]
                  exact ih49 (H, locs, ls) (by omega) ⟨trivial, hB, by show lv_has ls 6 [(0, .ref (a0)), (1, .int (nI (j_5))), (2, .int (nI (gN u.2.2 56 (0) (j_5)))), (3, .int (b2i ((decide (0 < mPlain u.2.2 j_5) || anyN (mAddQ u.2.2 j_5) (i_95 + 1))))), (4, .int (b2i (anyN (mAwayQ u.2.2 j_5 (gN u.2.2 56 0 j_5)) (i_95 + 1)))), (5, .int (nI (i_95 + 1)))]; rw [ea_152, ea_153]; exact lv_sub hl [3, 4, 5, 2, 1, 0] rfl⟩
          · refine lv_aload_n hx hb dX5_commit_62 rfl (lv_at hl 0 rfl) ?_
            refine w_get (v := .ref (sA u 37 0)) (fk := 16) hF hB ha0 (cn_20 env u (0)) rfl in_X5 (by decide) tw_3_111 rfl rfl dX5_commit_63 ?_
            refine lv_bipush (v := nI 12) hx hb dX5_commit_66 (by decide) ?_
            refine lv_iload_n hx hb dX5_commit_68 rfl (lv_at hl 1 rfl) ?_
            refine w_imul_n hx hb dX5_commit_69 ?_
            refine lv_iload hx hb dX5_commit_70 (lv_at hl 5 rfl) ?_
            refine w_iadd_n hx hb dX5_commit_72 ?_
            refine w_zald (v := .int (b2i (gB u.2.2 66 (0) ((12 * j_5) + i_95)))) hF hB ⟨hM 37 (by decide), rfl⟩ (cn_37 env u (0)) (by omega) rfl (by decide) dX5_commit_73 ?_
            refine w_ifeq_b (tgt := 81) hx hb dX5_commit_74 (by decide) (fun c_154 => ?_) (fun c_154 => ?_)
            · refine lv_iconst (v := nI 0) hx hb dX5_commit_81 (by decide) ?_
              refine lv_istore_n (lv' := [(3, .int (nI (0))), (0, .ref (a0)), (1, .int (nI (j_5))), (2, .int (nI (gN u.2.2 56 (0) (j_5)))), (4, .int (b2i (anyN (mAwayQ u.2.2 j_5 (gN u.2.2 56 0 j_5)) (i_95)))), (5, .int (nI (i_95)))]) hx hb dX5_commit_82 rfl hl (by decide) rfl (fun ls hl => ?_)
              refine lv_iload hx hb dX5_commit_83 (lv_at hl 4 rfl) ?_
              refine w_ifne_b (tgt := 114) hx hb dX5_commit_85 (by decide) (fun c_155 => ?_) (fun c_155 => ?_)
              · refine lv_iconst (v := nI 1) hx hb dX5_commit_114 (by decide) ?_
                refine lv_goto (tgt := 119) hx hb dX5_commit_115 (by decide) ?_
                refine lv_istore (lv' := [(4, .int (nI (1))), (3, .int (nI (0))), (0, .ref (a0)), (1, .int (nI (j_5))), (2, .int (nI (gN u.2.2 56 (0) (j_5)))), (5, .int (nI (i_95)))]) hx hb dX5_commit_119 hl (by decide) rfl (fun ls hl => ?_)
                refine lv_iinc (v := nI (i_95 + 1)) (lv' := [(5, .int (nI (i_95 + 1))), (4, .int (nI (1))), (3, .int (nI (0))), (0, .ref (a0)), (1, .int (nI (j_5))), (2, .int (nI (gN u.2.2 56 (0) (j_5))))]) hx hb dX5_commit_121 hl (k := 5) rfl (nI_add _ _) (by decide) rfl (fun ls hl => ?_)
                refine lv_goto (tgt := 49) hx hb dX5_commit_124 (by decide) ?_
                have ea_156 : (decide (0 < mPlain u.2.2 j_5) || anyN (mAddQ u.2.2 j_5) (i_95 + 1)) = false := by first | (simp [allN_s, anyN_s, cntN_s, sumL_s, Int64.add_assoc, mAddQ, mAwayQ, c_100, c_142, c_154, c_155] <;> omega) | grind [allN_s, anyN_s, cntN_s, sumL_s, Int64.add_assoc, mAddQ, mAwayQ]
                have ea_157 : anyN (mAwayQ u.2.2 j_5 (gN u.2.2 56 0 j_5)) (i_95 + 1) = true := by first | (simp [allN_s, anyN_s, cntN_s, sumL_s, Int64.add_assoc, mAddQ, mAwayQ, c_100, c_142, c_154, c_155] <;> omega) | grind [allN_s, anyN_s, cntN_s, sumL_s, Int64.add_assoc, mAddQ, mAwayQ]
                exact ih49 (H, locs, ls) (by omega) ⟨trivial, hB, by show lv_has ls 6 [(0, .ref (a0)), (1, .int (nI (j_5))), (2, .int (nI (gN u.2.2 56 (0) (j_5)))), (3, .int (b2i ((decide (0 < mPlain u.2.2 j_5) || anyN (mAddQ u.2.2 j_5) (i_95 + 1))))), (4, .int (b2i (anyN (mAwayQ u.2.2 j_5 (gN u.2.2 56 0 j_5)) (i_95 + 1)))), (5, .int (nI (i_95 + 1)))]; rw [ea_156, ea_157]; exact lv_sub hl [3, 4, 5, 2, 1, 0] rfl⟩
              · refine lv_aload_n hx hb dX5_commit_88 rfl (lv_at hl 1 rfl) ?_
                refine w_get (v := .ref (sA u 35 0)) (fk := 14) hF hB ha0 (cn_20 env u (0)) rfl in_X5 (by decide) tw_3_109 rfl rfl dX5_commit_89 ?_
                refine lv_bipush (v := nI 12) hx hb dX5_commit_92 (by decide) ?_
                refine lv_iload_n hx hb dX5_commit_94 rfl (lv_at hl 2 rfl) ?_
                refine w_imul_n hx hb dX5_commit_95 ?_
                refine lv_iload hx hb dX5_commit_96 (lv_at hl 5 rfl) ?_
                refine w_iadd_n hx hb dX5_commit_98 ?_
                refine w_zald (v := .int (b2i (gB u.2.2 64 (0) ((12 * j_5) + i_95)))) hF hB ⟨hM 35 (by decide), rfl⟩ (cn_35 env u (0)) (by omega) rfl (by decide) dX5_commit_99 ?_
                refine w_ifeq_b (tgt := 118) hx hb dX5_commit_100 (by decide) (fun c_158 => ?_) (fun c_158 => ?_)
                · refine lv_iconst (v := nI 0) hx hb dX5_commit_118 (by decide) ?_
                  refine lv_istore (lv' := [(4, .int (nI (0))), (3, .int (nI (0))), (0, .ref (a0)), (1, .int (nI (j_5))), (2, .int (nI (gN u.2.2 56 (0) (j_5)))), (5, .int (nI (i_95)))]) hx hb dX5_commit_119 hl (by decide) rfl (fun ls hl => ?_)
                  refine lv_iinc (v := nI (i_95 + 1)) (lv' := [(5, .int (nI (i_95 + 1))), (4, .int (nI (0))), (3, .int (nI (0))), (0, .ref (a0)), (1, .int (nI (j_5))), (2, .int (nI (gN u.2.2 56 (0) (j_5))))]) hx hb dX5_commit_121 hl (k := 5) rfl (nI_add _ _) (by decide) rfl (fun ls hl => ?_)
                  refine lv_goto (tgt := 49) hx hb dX5_commit_124 (by decide) ?_
                  have ea_159 : (decide (0 < mPlain u.2.2 j_5) || anyN (mAddQ u.2.2 j_5) (i_95 + 1)) = false := by first | (simp [allN_s, anyN_s, cntN_s, sumL_s, Int64.add_assoc, mAddQ, mAwayQ, c_100, c_142, c_154, c_155, c_158] <;> omega) | grind [allN_s, anyN_s, cntN_s, sumL_s, Int64.add_assoc, mAddQ, mAwayQ]
                  have ea_160 : anyN (mAwayQ u.2.2 j_5 (gN u.2.2 56 0 j_5)) (i_95 + 1) = false := by first | (simp [allN_s, anyN_s, cntN_s, sumL_s, Int64.add_assoc, mAddQ, mAwayQ, c_100, c_142, c_154, c_155, c_158] <;> omega) | grind [allN_s, anyN_s, cntN_s, sumL_s, Int64.add_assoc, mAddQ, mAwayQ]
                  exact ih49 (H, locs, ls) (by omega) ⟨trivial, hB, by show lv_has ls 6 [(0, .ref (a0)), (1, .int (nI (j_5))), (2, .int (nI (gN u.2.2 56 (0) (j_5)))), (3, .int (b2i ((decide (0 < mPlain u.2.2 j_5) || anyN (mAddQ u.2.2 j_5) (i_95 + 1))))), (4, .int (b2i (anyN (mAwayQ u.2.2 j_5 (gN u.2.2 56 0 j_5)) (i_95 + 1)))), (5, .int (nI (i_95 + 1)))]; rw [ea_159, ea_160]; exact lv_sub hl [3, 4, 5, 2, 1, 0] rfl⟩
                · refine lv_aload_n hx hb dX5_commit_103 rfl (lv_at hl 1 rfl) ?_
                  refine w_get (v := .ref (sA u 24 0)) (fk := 3) hF hB ha0 (cn_20 env u (0)) rfl in_X5 (by decide) tw_3_98 rfl rfl dX5_commit_104 ?_
                  refine lv_iload hx hb dX5_commit_107 (lv_at hl 5 rfl) ?_
                  refine w_iald (v := .int (nI (gN u.2.2 53 (0) (i_95)))) hF hB ⟨hM 24 (by decide), rfl⟩ (cn_24 env u (0)) (by omega) rfl (by decide) dX5_commit_109 ?_
                  refine lv_iload_n hx hb dX5_commit_110 rfl (lv_at hl 3 rfl) ?_
                  refine w_iceq_n (tgt := 118) (by have := hNm 53 (0) (i_95); omega) (by have := hNm 56 (0) (j_5); omega) hx hb dX5_commit_111 (by decide) (fun c_161 => ?_) (fun c_161 => ?_)
                  · refine lv_iconst (v := nI 0) hx hb dX5_commit_118 (by decide) ?_
                    refine lv_istore (lv' := [(4, .int (nI (0))), (3, .int (nI (0))), (0, .ref (a0)), (1, .int (nI (j_5))), (2, .int (nI (gN u.2.2 56 (0) (j_5)))), (5, .int (nI (i_95)))]) hx hb dX5_commit_119 hl (by decide) rfl (fun ls hl => ?_)
                    refine lv_iinc (v := nI (i_95 + 1)) (lv' := [(5, .int (nI (i_95 + 1))), (4, .int (nI (0))), (3, .int (nI (0))), (0, .ref (a0)), (1, .int (nI (j_5))), (2, .int (nI (gN u.2.2 56 (0) (j_5))))]) hx hb dX5_commit_121 hl (k := 5) rfl (nI_add _ _) (by decide) rfl (fun ls hl => ?_)
                    refine lv_goto (tgt := 49) hx hb dX5_commit_124 (by decide) ?_
                    have ea_162 : (decide (0 < mPlain u.2.2 j_5) || anyN (mAddQ u.2.2 j_5) (i_95 + 1)) = false := by first | (simp [allN_s, anyN_s, cntN_s, sumL_s, Int64.add_assoc, mAddQ, mAwayQ, c_100, c_142, c_154, c_155, c_158, c_161] <;> omega) | grind [allN_s, anyN_s, cntN_s, sumL_s, Int64.add_assoc, mAddQ, mAwayQ]
                    have ea_163 : anyN (mAwayQ u.2.2 j_5 (gN u.2.2 56 0 j_5)) (i_95 + 1) = false := by first | (simp [allN_s, anyN_s, cntN_s, sumL_s, Int64.add_assoc, mAddQ, mAwayQ, c_100, c_142, c_154, c_155, c_158, c_161] <;> omega) | grind [allN_s, anyN_s, cntN_s, sumL_s, Int64.add_assoc, mAddQ, mAwayQ]
                    exact ih49 (H, locs, ls) (by omega) ⟨trivial, hB, by show lv_has ls 6 [(0, .ref (a0)), (1, .int (nI (j_5))), (2, .int (nI (gN u.2.2 56 (0) (j_5)))), (3, .int (b2i ((decide (0 < mPlain u.2.2 j_5) || anyN (mAddQ u.2.2 j_5) (i_95 + 1))))), (4, .int (b2i (anyN (mAwayQ u.2.2 j_5 (gN u.2.2 56 0 j_5)) (i_95 + 1)))), (5, .int (nI (i_95 + 1)))]; rw [ea_162, ea_163]; exact lv_sub hl [3, 4, 5, 2, 1, 0] rfl⟩
                  · refine lv_iconst (v := nI 1) hx hb dX5_commit_114 (by decide) ?_
                    refine lv_goto (tgt := 119) hx hb dX5_commit_115 (by decide) ?_
                    refine lv_istore (lv' := [(4, .int (nI (1))), (3, .int (nI (0))), (0, .ref (a0)), (1, .int (nI (j_5))), (2, .int (nI (gN u.2.2 56 (0) (j_5)))), (5, .int (nI (i_95)))]) hx hb dX5_commit_119 hl (by decide) rfl (fun ls hl => ?_)
                    refine lv_iinc (v := nI (i_95 + 1)) (lv' := [(5, .int (nI (i_95 + 1))), (4, .int (nI (1))), (3, .int (nI (0))), (0, .ref (a0)), (1, .int (nI (j_5))), (2, .int (nI (gN u.2.2 56 (0) (j_5))))]) hx hb dX5_commit_121 hl (k := 5) rfl (nI_add _ _) (by decide) rfl (fun ls hl => ?_)
                    refine lv_goto (tgt := 49) hx hb dX5_commit_124 (by decide) ?_
                    have ea_164 : (decide (0 < mPlain u.2.2 j_5) || anyN (mAddQ u.2.2 j_5) (i_95 + 1)) = false := by first | (simp [allN_s, anyN_s, cntN_s, sumL_s, Int64.add_assoc, mAddQ, mAwayQ, c_100, c_142, c_154, c_155, c_158, c_161] <;> omega) | grind [allN_s, anyN_s, cntN_s, sumL_s, Int64.add_assoc, mAddQ, mAwayQ]
                    have ea_165 : anyN (mAwayQ u.2.2 j_5 (gN u.2.2 56 0 j_5)) (i_95 + 1) = true := by first | (simp [allN_s, anyN_s, cntN_s, sumL_s, Int64.add_assoc, mAddQ, mAwayQ, c_100, c_142, c_154, c_155, c_158, c_161] <;> omega) | grind [allN_s, anyN_s, cntN_s, sumL_s, Int64.add_assoc, mAddQ, mAwayQ]
                    exact ih49 (H, locs, ls) (by omega) ⟨trivial, hB, by show lv_has ls 6 [(0, .ref (a0)), (1, .int (nI (j_5))), (2, .int (nI (gN u.2.2 56 (0) (j_5)))), (3, .int (b2i ((decide (0 < mPlain u.2.2 j_5) || anyN (mAddQ u.2.2 j_5) (i_95 + 1))))), (4, .int (b2i (anyN (mAwayQ u.2.2 j_5 (gN u.2.2 56 0 j_5)) (i_95 + 1)))), (5, .int (nI (i_95 + 1)))]; rw [ea_164, ea_165]; exact lv_sub hl [3, 4, 5, 2, 1, 0] rfl⟩
            · refine lv_iconst (v := nI 1) hx hb dX5_commit_77 (by decide) ?_
              refine lv_goto (tgt := 82) hx hb dX5_commit_78 (by decide) ?_
              refine lv_istore_n (lv' := [(3, .int (nI (1))), (0, .ref (a0)), (1, .int (nI (j_5))), (2, .int (nI (gN u.2.2 56 (0) (j_5)))), (4, .int (b2i (anyN (mAwayQ u.2.2 j_5 (gN u.2.2 56 0 j_5)) (i_95)))), (5, .int (nI (i_95)))]) hx hb dX5_commit_82 rfl hl (by decide) rfl (fun ls hl => ?_)
              refine lv_iload hx hb dX5_commit_83 (lv_at hl 4 rfl) ?_
              refine w_ifne_b (tgt := 114) hx hb dX5_commit_85 (by decide) (fun c_166 => ?_) (fun c_166 => ?_)
              · refine lv_iconst (v := nI 1) hx hb dX5_commit_114 (by decide) ?_
                refine lv_goto (tgt := 119) hx hb dX5_commit_115 (by decide) ?_
                refine lv_istore (lv' := [(4, .int (nI (1))), (3, .int (nI (1))), (0, .ref (a0)), (1, .int (nI (j_5))), (2, .int (nI (gN u.2.2 56 (0) (j_5)))), (5, .int (nI (i_95)))]) hx hb dX5_commit_119 hl (by decide) rfl (fun ls hl => ?_)
                refine lv_iinc (v := nI (i_95 + 1)) (lv' := [(5, .int (nI (i_95 + 1))), (4, .int (nI (1))), (3, .int (nI (1))), (0, .ref (a0)), (1, .int (nI (j_5))), (2, .int (nI (gN u.2.2 56 (0) (j_5))))]) hx hb dX5_commit_121 hl (k := 5) rfl (nI_add _ _) (by decide) rfl (fun ls hl => ?_)
                refine lv_goto (tgt := 49) hx hb dX5_commit_124 (by decide) ?_
                have ea_167 : (decide (0 < mPlain u.2.2 j_5) || anyN (mAddQ u.2.2 j_5) (i_95 + 1)) = true := by first | (simp [allN_s, anyN_s, cntN_s, sumL_s, Int64.add_assoc, mAddQ, mAwayQ, c_100, c_142, c_154, c_166] <;> omega) | grind [allN_s, anyN_s, cntN_s, sumL_s, Int64.add_assoc, mAddQ, mAwayQ]
                have ea_168 : anyN (mAwayQ u.2.2 j_5 (gN u.2.2 56 0 j_5)) (i_95 + 1) = true := by first | (simp [allN_s, anyN_s, cntN_s, sumL_s, Int64.add_assoc, mAddQ, mAwayQ, c_100, c_142, c_154, c_166] <;> omega) | grind [allN_s, anyN_s, cntN_s, sumL_s, Int64.add_assoc, mAddQ, mAwayQ]
                exact ih49 (H, locs, ls) (by omega) ⟨trivial, hB, by show lv_has ls 6 [(0, .ref (a0)), (1, .int (nI (j_5))), (2, .int (nI (gN u.2.2 56 (0) (j_5)))), (3, .int (b2i ((decide (0 < mPlain u.2.2 j_5) || anyN (mAddQ u.2.2 j_5) (i_95 + 1))))), (4, .int (b2i (anyN (mAwayQ u.2.2 j_5 (gN u.2.2 56 0 j_5)) (i_95 + 1)))), (5, .int (nI (i_95 + 1)))]; rw [ea_167, ea_168]; exact lv_sub hl [3, 4, 5, 2, 1, 0] rfl⟩
              · refine lv_aload_n hx hb dX5_commit_88 rfl (lv_at hl 1 rfl) ?_
                refine w_get (v := .ref (sA u 35 0)) (fk := 14) hF hB ha0 (cn_20 env u (0)) rfl in_X5 (by decide) tw_3_109 rfl rfl dX5_commit_89 ?_
                refine lv_bipush (v := nI 12) hx hb dX5_commit_92 (by decide) ?_
                refine lv_iload_n hx hb dX5_commit_94 rfl (lv_at hl 2 rfl) ?_
                refine w_imul_n hx hb dX5_commit_95 ?_
                refine lv_iload hx hb dX5_commit_96 (lv_at hl 5 rfl) ?_
                refine w_iadd_n hx hb dX5_commit_98 ?_
                refine w_zald (v := .int (b2i (gB u.2.2 64 (0) ((12 * j_5) + i_95)))) hF hB ⟨hM 35 (by decide), rfl⟩ (cn_35 env u (0)) (by omega) rfl (by decide) dX5_commit_99 ?_
                refine w_ifeq_b (tgt := 118) hx hb dX5_commit_100 (by decide) (fun c_169 => ?_) (fun c_169 => ?_)
                · refine lv_iconst (v := nI 0) hx hb dX5_commit_118 (by decide) ?_
                  refine lv_istore (lv' := [(4, .int (nI (0))), (3, .int (nI (1))), (0, .ref (a0)), (1, .int (nI (j_5))), (2, .int (nI (gN u.2.2 56 (0) (j_5)))), (5, .int (nI (i_95)))]) hx hb dX5_commit_119 hl (by decide) rfl (fun ls hl => ?_)
                  refine lv_iinc (v := nI (i_95 + 1)) (lv' := [(5, .int (nI (i_95 + 1))), (4, .int (nI (0))), (3, .int (nI (1))), (0, .ref (a0)), (1, .int (nI (j_5))), (2, .int (nI (gN u.2.2 56 (0) (j_5))))]) hx hb dX5_commit_121 hl (k := 5) rfl (nI_add _ _) (by decide) rfl (fun ls hl => ?_)
                  refine lv_goto (tgt := 49) hx hb dX5_commit_124 (by decide) ?_
                  have ea_170 : (decide (0 < mPlain u.2.2 j_5) || anyN (mAddQ u.2.2 j_5) (i_95 + 1)) = true := by first | (simp [allN_s, anyN_s, cntN_s, sumL_s, Int64.add_assoc, mAddQ, mAwayQ, c_100, c_142, c_154, c_166, c_169] <;> omega) | grind [allN_s, anyN_s, cntN_s, sumL_s, Int64.add_assoc, mAddQ, mAwayQ]
                  have ea_171 : anyN (mAwayQ u.2.2 j_5 (gN u.2.2 56 0 j_5)) (i_95 + 1) = false := by first | (simp [allN_s, anyN_s, cntN_s, sumL_s, Int64.add_assoc, mAddQ, mAwayQ, c_100, c_142, c_154, c_166, c_169] <;> omega) | grind [allN_s, anyN_s, cntN_s, sumL_s, Int64.add_assoc, mAddQ, mAwayQ]
                  exact ih49 (H, locs, ls) (by omega) ⟨trivial, hB, by show lv_has ls 6 [(0, .ref (a0)), (1, .int (nI (j_5))), (2, .int (nI (gN u.2.2 56 (0) (j_5)))), (3, .int (b2i ((decide (0 < mPlain u.2.2 j_5) || anyN (mAddQ u.2.2 j_5) (i_95 + 1))))), (4, .int (b2i (anyN (mAwayQ u.2.2 j_5 (gN u.2.2 56 0 j_5)) (i_95 + 1)))), (5, .int (nI (i_95 + 1)))]; rw [ea_170, ea_171]; exact lv_sub hl [3, 4, 5, 2, 1, 0] rfl⟩
                · refine lv_aload_n hx hb dX5_commit_103 rfl (lv_at hl 1 rfl) ?_
                  refine w_get (v := .ref (sA u 24 0)) (fk := 3) hF hB ha0 (cn_20 env u (0)) rfl in_X5 (by decide) tw_3_98 rfl rfl dX5_commit_104 ?_
                  refine lv_iload hx hb dX5_commit_107 (lv_at hl 5 rfl) ?_
                  refine w_iald (v := .int (nI (gN u.2.2 53 (0) (i_95)))) hF hB ⟨hM 24 (by decide), rfl⟩ (cn_24 env u (0)) (by omega) rfl (by decide) dX5_commit_109 ?_
                  refine lv_iload_n hx hb dX5_commit_110 rfl (lv_at hl 3 rfl) ?_
                  refine w_iceq_n (tgt := 118) (by have := hNm 53 (0) (i_95); omega) (by have := hNm 56 (0) (j_5); omega) hx hb dX5_commit_111 (by decide) (fun c_172 => ?_) (fun c_172 => ?_)
                  · refine lv_iconst (v := nI 0) hx hb dX5_commit_118 (by decide) ?_
                    refine lv_istore (lv' := [(4, .int (nI (0))), (3, .int (nI (1))), (0, .ref (a0)), (1, .int (nI (j_5))), (2, .int (nI (gN u.2.2 56 (0) (j_5)))), (5, .int (nI (i_95)))]) hx hb dX5_commit_119 hl (by decide) rfl (fun ls hl => ?_)
                    refine lv_iinc (v := nI (i_95 + 1)) (lv' := [(5, .int (nI (i_95 + 1))), (4, .int (nI (0))), (3, .int (nI (1))), (0, .ref (a0)), (1, .int (nI (j_5))), (2, .int (nI (gN u.2.2 56 (0) (j_5))))]) hx hb dX5_commit_121 hl (k := 5) rfl (nI_add _ _) (by decide) rfl (fun ls hl => ?_)
                    refine lv_goto (tgt := 49) hx hb dX5_commit_124 (by decide) ?_
                    have ea_173 : (decide (0 < mPlain u.2.2 j_5) || anyN (mAddQ u.2.2 j_5) (i_95 + 1)) = true := by first | (simp [allN_s, anyN_s, cntN_s, sumL_s, Int64.add_assoc, mAddQ, mAwayQ, c_100, c_142, c_154, c_166, c_169, c_172] <;> omega) | grind [allN_s, anyN_s, cntN_s, sumL_s, Int64.add_assoc, mAddQ, mAwayQ]
                    have ea_174 : anyN (mAwayQ u.2.2 j_5 (gN u.2.2 56 0 j_5)) (i_95 + 1) = false := by first | (simp [allN_s, anyN_s, cntN_s, sumL_s, Int64.add_assoc, mAddQ, mAwayQ, c_100, c_142, c_154, c_166, c_169, c_172] <;> omega) | grind [allN_s, anyN_s, cntN_s, sumL_s, Int64.add_assoc, mAddQ, mAwayQ]
                    exact ih49 (H, locs, ls) (by omega) ⟨trivial, hB, by show lv_has ls 6 [(0, .ref (a0)), (1, .int (nI (j_5))), (2, .int (nI (gN u.2.2 56 (0) (j_5)))), (3, .int (b2i ((decide (0 < mPlain u.2.2 j_5) || anyN (mAddQ u.2.2 j_5) (i_95 + 1))))), (4, .int (b2i (anyN (mAwayQ u.2.2 j_5 (gN u.2.2 56 0 j_5)) (i_95 + 1)))), (5, .int (nI (i_95 + 1)))]; rw [ea_173, ea_174]; exact lv_sub hl [3, 4, 5, 2, 1, 0] rfl⟩
                  · refine lv_iconst (v := nI 1) hx hb dX5_commit_114 (by decide) ?_
                    refine lv_goto (tgt := 119) hx hb dX5_commit_115 (by decide) ?_
                    refine lv_istore (lv' := [(4, .int (nI (1))), (3, .int (nI (1))), (0, .ref (a0)), (1, .int (nI (j_5))), (2, .int (nI (gN u.2.2 56 (0) (j_5)))), (5, .int (nI (i_95)))]) hx hb dX5_commit_119 hl (by decide) rfl (fun ls hl => ?_)
                    refine lv_iinc (v := nI (i_95 + 1)) (lv' := [(5, .int (nI (i_95 + 1))), (4, .int (nI (1))), (3, .int (nI (1))), (0, .ref (a0)), (1, .int (nI (j_5))), (2, .int (nI (gN u.2.2 56 (0) (j_5))))]) hx hb dX5_commit_121 hl (k := 5) rfl (nI_add _ _) (by decide) rfl (fun ls hl => ?_)
                    refine lv_goto (tgt := 49) hx hb dX5_commit_124 (by decide) ?_
                    have ea_175 : (decide (0 < mPlain u.2.2 j_5) || anyN (mAddQ u.2.2 j_5) (i_95 + 1)) = true := by first | (simp [allN_s, anyN_s, cntN_s, sumL_s, Int64.add_assoc, mAddQ, mAwayQ, c_100, c_142, c_154, c_166, c_169, c_172] <;> omega) | grind [allN_s, anyN_s, cntN_s, sumL_s, Int64.add_assoc, mAddQ, mAwayQ]
                    have ea_176 : anyN (mAwayQ u.2.2 j_5 (gN u.2.2 56 0 j_5)) (i_95 + 1) = true := by first | (simp [allN_s, anyN_s, cntN_s, sumL_s, Int64.add_assoc, mAddQ, mAwayQ, c_100, c_142, c_154, c_166, c_169, c_172] <;> omega) | grind [allN_s, anyN_s, cntN_s, sumL_s, Int64.add_assoc, mAddQ, mAwayQ]
                    exact ih49 (H, locs, ls) (by omega) ⟨trivial, hB, by show lv_has ls 6 [(0, .ref (a0)), (1, .int (nI (j_5))), (2, .int (nI (gN u.2.2 56 (0) (j_5)))), (3, .int (b2i ((decide (0 < mPlain u.2.2 j_5) || anyN (mAddQ u.2.2 j_5) (i_95 + 1))))), (4, .int (b2i (anyN (mAwayQ u.2.2 j_5 (gN u.2.2 56 0 j_5)) (i_95 + 1)))), (5, .int (nI (i_95 + 1)))]; rw [ea_175, ea_176]; exact lv_sub hl [3, 4, 5, 2, 1, 0] rfl⟩
    · refine lv_bipush (v := -2) hx hb dX5_commit_19 (by decide) ?_
      exact w_iret (v := -2) hF hr hlocks hB (⟨by first | (simp [mcommit, hj_6, c_8]; done) | (simp [mcommit, hj_6, c_8]; rfl) | (simp [mcommit, hj_6, c_8] <;> omega), by first | (simp [mcommit, hj_6, c_8]; done) | (simp [mcommit, hj_6, c_8]; rfl) | (simp [mcommit, hj_6, c_8] <;> omega)⟩) dX5_commit_21
  · have hj_177 := Option.isSome_eq_false_iff.mp c_4
    rw [Option.isNone_iff_eq_none] at hj_177
    refine lv_iconst (v := -1) hx hb dX5_commit_8 (by decide) ?_
    exact w_iret (v := -1) hF hr hlocks hB (⟨by first | (simp [mcommit, hj_177]; done) | (simp [mcommit, hj_177]; rfl) | (simp [mcommit, hj_177] <;> omega), by first | (simp [mcommit, hj_177]; done) | (simp [mcommit, hj_177]; rfl) | (simp [mcommit, hj_177] <;> omega)⟩) dX5_commit_9

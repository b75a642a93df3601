set_option maxHeartbeats 4000000 in
set_option maxRecDepth 100000 in
theorem c_X5_comesNow (l : Launch) (env : Ev) (s0 : Nat) (X : va_W) (u : St) (a0 : Nat) (_xa0 : Nat) (ha0 : At u 20 (0) a0) (i : Nat) (hM : MI u) (hV : MV u.2.2) (hNm : Nb u.2.2) (hi : i < gN u.2.2 72 0 0) (hk : mOK u.2.2 i) : Met l yX5_comesNow [Cond.code yX5_comesNow cX5_comesNow 7 (some .int)] { frames := 3, cells := 0, slots := 0, locals := 72 } (va_Pc [.ref (a0), .int (nI (i))] (Pr env s0 X u)) (va_Qi (fun r u' => u' = wM u (mComesNow u.2.2 (i)) ∧ r = nI (gN u.2.2 73 0 i)) (Po env s0 X) (fun q => s0 ≤ q)) 0 0 (fun q => s0 ≤ q) := by
  refine Met.ofW (cc := cX5_comesNow) (maxL := 7) (ret := (some .int)) (by decide) rfl ?_
  intro p e s m args below meth c s₁ B hml hv
  obtain ⟨rfl, hv⟩ := hv
  have hx := B.exec
  have hb := B.bytes
  have hr := B.returns
  have hts : ∀ ww ∈ TT, ww.before #[.ref (a0), .int (nI (i))] s = true := fun ww hw => hv.2.1 ww hw _
  have hown : s.vm.findClass RX5 = some m.cls := findClass_of_methodNamed B.named
  have hlocks := B.notSynchronized
  have hF : CallFix p m c cX5_comesNow 7 s #[.ref (a0), .int (nI (i))] TT RX5 := ⟨hx, hb, hml, hown, hts⟩
  have hB := Bd.entry hv
  have hl := lv_entry ([.ref (a0), .int (nI (i))]) (n := 7) (Nat.le_of_ble_eq_true rfl)
  rw [lg_entry_eq]
  generalize (lg_sl ([.ref (a0), .int (nI (i))]) ++ List.replicate (7 - (lg_sl ([.ref (a0), .int (nI (i))])).length) Slot.unset).toArray = ls at hl ⊢
  have hl : lv_has ls 7 [(0, .ref (a0)), (1, .int (nI (i)))] := hl
  have hn1 := hV.nth
  have hn2 := hV.ntx
  have hn3 := hV.nst
  have hn4 := hV.nms
  have e72 : gN (uN u.2.2 72 0 0 (gN u.2.2 72 0 0 - 1)) 72 0 0 = gN u.2.2 72 0 0 - 1 := by simp [uN, gN, up3]
  have hof := hV.of i
  have hto := hV.to i
  have hfr := hV.fr i
  refine lv_aload_n hx hb dX5_comesNow_0 rfl (lv_at hl 0 rfl) ?_
  refine w_get (v := .ref (sA u 44 0)) (fk := 23) hF hB ha0 (cn_20 env u (0)) rfl in_X5 (by decide) tw_3_118 rfl rfl dX5_comesNow_1 ?_
  refine lv_iload_n hx hb dX5_comesNow_4 rfl (lv_at hl 1 rfl) ?_
  refine w_iald (v := .int (nI (gN u.2.2 73 (0) (i)))) hF hB ⟨hM 44 (by decide), rfl⟩ (cn_44 env u (0)) (by omega) rfl (by decide) dX5_comesNow_5 ?_
  refine lv_istore_n (lv' := [(2, .int (nI (gN u.2.2 73 (0) (i)))), (0, .ref (a0)), (1, .int (nI (i)))]) hx hb dX5_comesNow_6 rfl hl (by decide) rfl (fun ls hl => ?_)
  refine lv_aload_n hx hb dX5_comesNow_7 rfl (lv_at hl 1 rfl) ?_
  refine w_get (v := .ref (sA u 45 0)) (fk := 24) hF hB ha0 (cn_20 env u (0)) rfl in_X5 (by decide) tw_3_119 rfl rfl dX5_comesNow_8 ?_
  refine lv_iload_n hx hb dX5_comesNow_11 rfl (lv_at hl 2 rfl) ?_
  refine w_iald (v := .int (nI (gN u.2.2 74 (0) (i)))) hF hB ⟨hM 45 (by decide), rfl⟩ (cn_45 env u (0)) (by omega) rfl (by decide) dX5_comesNow_12 ?_
  refine lv_istore_n (lv' := [(3, .int (nI (gN u.2.2 74 (0) (i)))), (2, .int (nI (gN u.2.2 73 (0) (i)))), (0, .ref (a0)), (1, .int (nI (i)))]) hx hb dX5_comesNow_13 rfl hl (by decide) rfl (fun ls hl => ?_)
  refine lv_aload_n hx hb dX5_comesNow_14 rfl (lv_at hl 2 rfl) ?_
  refine w_get (v := .ref (sA u 46 0)) (fk := 25) hF hB ha0 (cn_20 env u (0)) rfl in_X5 (by decide) tw_3_120 rfl rfl dX5_comesNow_15 ?_
  refine lv_iload_n hx hb dX5_comesNow_18 rfl (lv_at hl 3 rfl) ?_
  refine w_iald (v := .int (nI (gN u.2.2 75 (0) (i)))) hF hB ⟨hM 46 (by decide), rfl⟩ (cn_46 env u (0)) (by omega) rfl (by decide) dX5_comesNow_19 ?_
  refine lv_istore (lv' := [(4, .int (nI (gN u.2.2 75 (0) (i)))), (3, .int (nI (gN u.2.2 74 (0) (i)))), (2, .int (nI (gN u.2.2 73 (0) (i)))), (0, .ref (a0)), (1, .int (nI (i)))]) hx hb dX5_comesNow_20 hl (by decide) rfl (fun ls hl => ?_)
  refine lv_aload_n hx hb dX5_comesNow_22 rfl (lv_at hl 3 rfl) ?_
  refine w_get (v := .ref (sA u 47 0)) (fk := 26) hF hB ha0 (cn_20 env u (0)) rfl in_X5 (by decide) tw_3_121 rfl rfl dX5_comesNow_23 ?_
  refine lv_iload_n hx hb dX5_comesNow_26 rfl (lv_at hl 4 rfl) ?_
  refine w_iald (v := .int (nI (gN u.2.2 76 (0) (i)))) hF hB ⟨hM 47 (by decide), rfl⟩ (cn_47 env u (0)) (by omega) rfl (by decide) dX5_comesNow_27 ?_
  refine lv_istore (lv' := [(5, .int (nI (gN u.2.2 76 (0) (i)))), (4, .int (nI (gN u.2.2 75 (0) (i)))), (3, .int (nI (gN u.2.2 74 (0) (i)))), (2, .int (nI (gN u.2.2 73 (0) (i)))), (0, .ref (a0)), (1, .int (nI (i)))]) hx hb dX5_comesNow_28 hl (by decide) rfl (fun ls hl => ?_)
  refine lv_aload_n hx hb dX5_comesNow_30 rfl (lv_at hl 4 rfl) ?_
  refine lv_dup hx hb dX5_comesNow_31 rfl ?_
  refine w_get (v := .int (nI (gN u.2.2 72 (0) (0)))) (fk := 22) hF hB ha0 (cn_20 env u (0)) rfl in_X5 (by decide) tw_3_117 rfl rfl dX5_comesNow_32 ?_
  refine lv_iconst (v := nI 1) hx hb dX5_comesNow_35 (by decide) ?_
  refine w_isub_n (by omega) hx hb dX5_comesNow_36 ?_
  refine w_put (fk := 22) (v := .int (nI ((gN u.2.2 72 (0) (0)) - 1))) (ty := .int) hF hB ha0 (wM u (uN u.2.2 72 (0) (0) ((gN u.2.2 72 (0) (0)) - 1))) (cn_20 env u (0)) rfl in_X5 tyX5 tyX5_ok nmX5 (by decide) tw_3_117 rfl rfl (by decide +kernel) rfl rfl (Nat.le_of_ble_eq_true rfl) rfl rfl (cu_N72 env u (0) ((gN u.2.2 72 (0) (0)) - 1)) dX5_comesNow_37 (fun H locs hB => ?_)
  refine lv_iload_n hx hb dX5_comesNow_40 rfl (lv_at hl 5 rfl) ?_
  refine lv_istore (lv' := [(6, .int (nI (i))), (5, .int (nI (gN u.2.2 76 (0) (i)))), (4, .int (nI (gN u.2.2 75 (0) (i)))), (3, .int (nI (gN u.2.2 74 (0) (i)))), (2, .int (nI (gN u.2.2 73 (0) (i)))), (0, .ref (a0)), (1, .int (nI (i)))]) hx hb dX5_comesNow_41 hl (by decide) rfl (fun ls hl => ?_)
  refine wloopH (σ := Heap × List Loc × Array Slot) (G := fun x => W p l e _ s m _ below meth c x.1 x.2.1 _ _ _ (F0 m 43 x.2.2 [])) (P := fun i_1 x => (True) ∧ Bd env s0 X (wM u (mShiftL (uN u.2.2 72 0 0 (gN u.2.2 72 0 0 - 1)) i i_1)) s x.1 x.2.1 ∧ lv_has x.2.2 7 [(0, .ref (a0)), (1, .int (nI (i))), (2, .int (nI (gN u.2.2 73 (0) (i)))), (3, .int (nI (gN u.2.2 74 (0) (i)))), (4, .int (nI (gN u.2.2 75 (0) (i)))), (5, .int (nI (gN u.2.2 76 (0) (i)))), (6, .int (nI (i + i_1)))]) (N := gN u.2.2 72 0 0 - 1 - i) ?_ 0 (_, _, ls) (Nat.zero_le _) ⟨trivial, hB, lv_sub hl [5, 6, 4, 3, 2, 1, 0] rfl⟩
  rintro i_1 ⟨H, locs, ls⟩ hi_2 ⟨hv_3, hB, hl⟩ ih43
  replace hB : Bd env s0 X (wM u (mShiftL (uN u.2.2 72 0 0 (gN u.2.2 72 0 0 - 1)) i i_1)) s H locs := hB
  replace hl : lv_has ls 7 [(0, .ref (a0)), (1, .int (nI (i))), (2, .int (nI (gN u.2.2 73 (0) (i)))), (3, .int (nI (gN u.2.2 74 (0) (i)))), (4, .int (nI (gN u.2.2 75 (0) (i)))), (5, .int (nI (gN u.2.2 76 (0) (i)))), (6, .int (nI (i + i_1)))] := hl
  show W p l e _ s m _ below meth c H locs _ _ _ (F0 m 43 ls [])
  have := hNm 72 0 0
  have := hV.nms
  have hV_4 : MV (mShiftL (uN u.2.2 72 0 0 (gN u.2.2 72 0 0 - 1)) i i_1) := mShiftL_V (MV.u72 hV (j := 0) (v := (gN u.2.2 72 (0) (0)) - 1) (by omega)) i _
  have hNm_5 : Nb (mShiftL (uN u.2.2 72 0 0 (gN u.2.2 72 0 0 - 1)) i i_1) := mShiftL_Nb (Nb.uN hNm (f := 72) (i := 0) (j := 0) (v := (gN u.2.2 72 (0) (0)) - 1) (by have := hNm 72 (0) (0); omega)) i _
  refine lv_iload hx hb dX5_comesNow_43 (lv_at hl 6 rfl) ?_
  refine lv_aload_n hx hb dX5_comesNow_45 rfl (lv_at hl 0 rfl) ?_
  refine w_get (v := .int (nI (gN (mShiftL (uN u.2.2 72 0 0 (gN u.2.2 72 0 0 - 1)) i i_1) 72 (0) (0)))) (fk := 22) hF hB ha0 (cn_20 env (wM u (mShiftL (uN u.2.2 72 0 0 (gN u.2.2 72 0 0 - 1)) i i_1)) (0)) rfl in_X5 (by decide) tw_3_117 rfl rfl dX5_comesNow_46 ?_
  refine w_icge_n (tgt := 122) (by omega) (by have := hNm_5 72 (0) (0); have := hNm 72 0 0; omega) hx hb dX5_comesNow_49 (by decide) (fun c_6 => ?_) (fun c_6 => ?_)
  · rw [mShiftL_f _ _ (by decide), e72] at c_6
    obtain rfl : i_1 = gN u.2.2 72 0 0 - 1 - i := by omega
    replace hB : Bd env s0 X (wM u (mTake u.2.2 i)) s H locs := hB
    have hV_7 : MV (mTake u.2.2 i) := mTake_V hV i
    have hNm_8 : Nb (mTake u.2.2 i) := mTake_Nb hNm i
    refine lv_iload_n hx hb dX5_comesNow_122 rfl (lv_at hl 2 rfl) ?_
    by_cases c_9 : gN u.2.2 73 (0) (i) = 0
    · refine lv_tableIn (tgt := 156) hx hb dX5_comesNow_123 (by rw [c_9]; decide) (by rw [c_9]; decide) (by rw [c_9]; rfl) (by decide) ?_
      refine lv_aload_n hx hb dX5_comesNow_156 rfl (lv_at hl 0 rfl) ?_
      refine w_get (v := .ref (sA u 34 0)) (fk := 13) hF hB ha0 (cn_20 env (wM u (mTake u.2.2 i)) (0)) rfl in_X5 (by decide) tw_3_108 rfl rfl dX5_comesNow_157 ?_
      refine lv_iconst (v := nI 4) hx hb dX5_comesNow_160 (by decide) ?_
      refine lv_iload hx hb dX5_comesNow_161 (lv_at hl 5 rfl) ?_
      refine w_imul_n hx hb dX5_comesNow_163 ?_
      refine lv_iload_n hx hb dX5_comesNow_164 rfl (lv_at hl 3 rfl) ?_
      refine w_iadd_n hx hb dX5_comesNow_165 ?_
      refine w_zald (v := .int (b2i (gB (mTake u.2.2 i) 63 (0) ((4 * (gN u.2.2 76 (0) (i))) + (gN u.2.2 74 (0) (i)))))) hF hB ⟨hM 34 (by decide), rfl⟩ (cn_34 env (wM u (mTake u.2.2 i)) (0)) (by have := hV.of (i); have := hV.to (i); omega) rfl (by decide) dX5_comesNow_166 ?_
      refine w_ifne_b (tgt := 314) hx hb dX5_comesNow_167 (by decide) (fun c_10 => ?_) (fun c_10 => ?_)
      · refine lv_iload_n hx hb dX5_comesNow_314 rfl (lv_at hl 2 rfl) ?_
        exact w_iret (v := nI (gN u.2.2 73 (0) (i))) hF hr hlocks hB (⟨congrArg (wM u) (by first | (simp [mComesNow, mGot, mGotAsk, mGotYes, mGotDrop, mY1, c_9, c_10]; done) | (simp [mComesNow, mGot, mGotAsk, mGotYes, mGotDrop, mY1, c_9, c_10]; rfl)), rfl⟩) dX5_comesNow_315
      · refine lv_aload_n hx hb dX5_comesNow_170 rfl (lv_at hl 0 rfl) ?_
        refine lv_iload hx hb dX5_comesNow_171 (lv_at hl 5 rfl) ?_
        refine lv_iload_n hx hb dX5_comesNow_173 rfl (lv_at hl 3 rfl) ?_
        refine w_ci (r_V (As := [.int (nI (gN u.2.2 76 (0) (i))), .int (nI (gN u.2.2 74 (0) (i)))]) (rest := []) hF hB (c_X5_areFree l env s0 X (wM u (mTake u.2.2 i)) (a0) (0) (ha0) (gN u.2.2 76 (0) (i)) (gN u.2.2 74 (0) (i)) hM hV_7 hNm_8 hof hto) cv_X5_areFree tw_4_6 ⟨rfl, rfl, by decide, by decide⟩ (hB.recv ha0 (cn_20 env (wM u (mTake u.2.2 i)) (0)) rfl) rfl hl.1 rfl (lv_room (by decide)) dX5_comesNow_174 ⟨Nat.le_of_ble_eq_true rfl, Nat.le_of_ble_eq_true rfl⟩) hB (fun r_11 u_13 H locs hq_12 hB => ?_)
        obtain ⟨rfl, rfl⟩ := hq_12
        show W p l e _ s m _ below meth c H locs _ _ _ (F0 m _ ls [.int (b2i (mAreFree (mTake u.2.2 i) (gN u.2.2 76 (0) (i)) (gN u.2.2 74 (0) (i))))])
        refine lv_istore (lv' := [(6, .int (b2i (mAreFree (mTake u.2.2 i) (gN u.2.2 76 (0) (i)) (gN u.2.2 74 (0) (i))))), (0, .ref (a0)), (1, .int (nI (i))), (2, .int (nI (gN u.2.2 73 (0) (i)))), (3, .int (nI (gN u.2.2 74 (0) (i)))), (4, .int (nI (gN u.2.2 75 (0) (i)))), (5, .int (nI (gN u.2.2 76 (0) (i))))]) hx hb dX5_comesNow_177 hl (by decide) rfl (fun ls hl => ?_)
        refine lv_iload hx hb dX5_comesNow_179 (lv_at hl 0 rfl) ?_
        refine w_ifeq_b (tgt := 191) hx hb dX5_comesNow_181 (by decide) (fun c_14 => ?_) (fun c_14 => ?_)
        · refine lv_aload_n hx hb dX5_comesNow_191 rfl (lv_at hl 1 rfl) ?_
          refine lv_iload hx hb dX5_comesNow_192 (lv_at hl 0 rfl) ?_
          refine w_ifeq_b (tgt := 201) hx hb dX5_comesNow_194 (by decide) (fun _ => ?_) (fun c => absurd (c_14.symm.trans c) (by decide))
          refine lv_iconst (v := nI 2) hx hb dX5_comesNow_201 (by decide) ?_
          refine lv_iload hx hb dX5_comesNow_202 (lv_at hl 5 rfl) ?_
          refine lv_iload_n hx hb dX5_comesNow_204 rfl (lv_at hl 4 rfl) ?_
          refine lv_iload hx hb dX5_comesNow_205 (lv_at hl 6 rfl) ?_
          refine w_cv (r_V (As := [.int (nI (2)), .int (nI (gN u.2.2 75 (0) (i))), .int (nI (gN u.2.2 74 (0) (i))), .int (nI (gN u.2.2 76 (0) (i)))]) (rest := []) hF hB (c_X5_send l env s0 X (wM u (mTake u.2.2 i)) (a0) (0) (ha0) (2) (gN u.2.2 75 (0) (i)) (gN u.2.2 74 (0) (i)) (gN u.2.2 76 (0) (i)) hM hV_7 hNm_8 (by show gN (mTake u.2.2 i) 72 0 0 < 2400; rw [mTake_72]; have := hk.1; omega) (by decide) hfr hto hof) cv_X5_send tw_4_26 ⟨rfl, rfl, by decide, by decide⟩ (hB.recv ha0 (cn_20 env (wM u (mTake u.2.2 i)) (0)) rfl) rfl hl.1 rfl (lv_room (by decide)) dX5_comesNow_207 ⟨Nat.le_of_ble_eq_true rfl, Nat.le_of_ble_eq_true rfl⟩) hB (fun u_17 H locs hq_16 hB => ?_)
          obtain rfl := hq_16
          replace hB : Bd env s0 X (wM u (mSend ((mTake u.2.2 i)) (2) (gN u.2.2 75 (0) (i)) (gN u.2.2 74 (0) (i)) (gN u.2.2 76 (0) (i)))) s H locs := hB
          have hV_18 : MV (mSend ((mTake u.2.2 i)) (2) (gN u.2.2 75 (0) (i)) (gN u.2.2 74 (0) (i)) (gN u.2.2 76 (0) (i))) := mSend_V hV_7 hfr hto hof (by show gN (mTake u.2.2 i) 72 0 0 < 2400; rw [mTake_72]; have := hk.1; omega)
          have hNm_19 : Nb (mSend ((mTake u.2.2 i)) (2) (gN u.2.2 75 (0) (i)) (gN u.2.2 74 (0) (i)) (gN u.2.2 76 (0) (i))) := mSend_Nb hNm_8 (by decide) hfr hto hof (by show gN (mTake u.2.2 i) 72 0 0 < 2400; rw [mTake_72]; have := hk.1; omega)
          refine lv_goto (tgt := 314) hx hb dX5_comesNow_210 (by decide) ?_
          refine lv_iload_n hx hb dX5_comesNow_314 rfl (lv_at hl 3 rfl) ?_
          exact w_iret (v := nI (gN u.2.2 73 (0) (i))) hF hr hlocks hB (⟨congrArg (wM u) (by first | (simp [mComesNow, mGot, mGotAsk, mGotYes, mGotDrop, mY1, c_9, c_10, c_14]; done) | (simp [mComesNow, mGot, mGotAsk, mGotYes, mGotDrop, mY1, c_9, c_10, c_14]; rfl)), rfl⟩) dX5_comesNow_315
        · refine lv_aload_n hx hb dX5_comesNow_184 rfl (lv_at hl 1 rfl) ?_
          refine lv_iload hx hb dX5_comesNow_185 (lv_at hl 6 rfl) ?_
          refine lv_iload_n hx hb dX5_comesNow_187 rfl (lv_at hl 4 rfl) ?_
          refine w_cv (r_V (As := [.int (nI (gN u.2.2 76 (0) (i))), .int (nI (gN u.2.2 74 (0) (i)))]) (rest := []) hF hB (c_X5_lock l env s0 X (wM u (mTake u.2.2 i)) (a0) (0) (ha0) (gN u.2.2 76 (0) (i)) (gN u.2.2 74 (0) (i)) hM hV_7 hNm_8 hof hto) cv_X5_lock tw_4_30 ⟨rfl, rfl, by decide, by decide⟩ (hB.recv ha0 (cn_20 env (wM u (mTake u.2.2 i)) (0)) rfl) rfl hl.1 rfl (lv_room (by decide)) dX5_comesNow_188 ⟨Nat.le_of_ble_eq_true rfl, Nat.le_of_ble_eq_true rfl⟩) hB (fun u_22 H locs hq_21 hB => ?_)
          obtain rfl := hq_21
          replace hB : Bd env s0 X (wM u (mLock ((mTake u.2.2 i)) (gN u.2.2 76 (0) (i)) (gN u.2.2 74 (0) (i)) (gN ((mTake u.2.2 i)) 52 0 0))) s H locs := hB
          have hV_23 : MV (mLock ((mTake u.2.2 i)) (gN u.2.2 76 (0) (i)) (gN u.2.2 74 (0) (i)) (gN ((mTake u.2.2 i)) 52 0 0)) := MV.ofN (mLock_N _ _ _ _) hV_7
          have hNm_24 : Nb (mLock ((mTake u.2.2 i)) (gN u.2.2 76 (0) (i)) (gN u.2.2 74 (0) (i)) (gN ((mTake u.2.2 i)) 52 0 0)) := Nb.ofN (mLock_N _ _ _ _) hNm_8
          refine lv_aload_n hx hb dX5_comesNow_191 rfl (lv_at hl 1 rfl) ?_
          refine lv_iload hx hb dX5_comesNow_192 (lv_at hl 0 rfl) ?_
          refine w_ifeq_b (tgt := 201) hx hb dX5_comesNow_194 (by decide) (fun c => absurd (c_14.symm.trans c) (by decide)) (fun _ => ?_)
          refine lv_iconst (v := nI 1) hx hb dX5_comesNow_197 (by decide) ?_
          refine lv_goto (tgt := 202) hx hb dX5_comesNow_198 (by decide) ?_
          refine lv_iload hx hb dX5_comesNow_202 (lv_at hl 5 rfl) ?_
          refine lv_iload_n hx hb dX5_comesNow_204 rfl (lv_at hl 4 rfl) ?_
          refine lv_iload hx hb dX5_comesNow_205 (lv_at hl 6 rfl) ?_
          refine w_cv (r_V (As := [.int (nI (1)), .int (nI (gN u.2.2 75 (0) (i))), .int (nI (gN u.2.2 74 (0) (i))), .int (nI (gN u.2.2 76 (0) (i)))]) (rest := []) hF hB (c_X5_send l env s0 X (wM u (mLock ((mTake u.2.2 i)) (gN u.2.2 76 (0) (i)) (gN u.2.2 74 (0) (i)) (gN ((mTake u.2.2 i)) 52 0 0))) (a0) (0) (ha0) (1) (gN u.2.2 75 (0) (i)) (gN u.2.2 74 (0) (i)) (gN u.2.2 76 (0) (i)) hM hV_23 hNm_24 (by show gN (mLock ((mTake u.2.2 i)) (gN u.2.2 76 (0) (i)) (gN u.2.2 74 (0) (i)) (gN ((mTake u.2.2 i)) 52 0 0)) 72 0 0 < 2400; rw [mLock_N]; rw [mTake_72]; have := hk.1; omega) (by decide) hfr hto hof) cv_X5_send tw_4_26 ⟨rfl, rfl, by decide, by decide⟩ (hB.recv ha0 (cn_20 env (wM u (mLock ((mTake u.2.2 i)) (gN u.2.2 76 (0) (i)) (gN u.2.2 74 (0) (i)) (gN ((mTake u.2.2 i)) 52 0 0))) (0)) rfl) rfl hl.1 rfl (lv_room (by decide)) dX5_comesNow_207 ⟨Nat.le_of_ble_eq_true rfl, Nat.le_of_ble_eq_true rfl⟩) hB (fun u_27 H locs hq_26 hB => ?_)
          obtain rfl := hq_26
          replace hB : Bd env s0 X (wM u (mSend ((mLock ((mTake u.2.2 i)) (gN u.2.2 76 (0) (i)) (gN u.2.2 74 (0) (i)) (gN ((mTake u.2.2 i)) 52 0 0))) (1) (gN u.2.2 75 (0) (i)) (gN u.2.2 74 (0) (i)) (gN u.2.2 76 (0) (i)))) s H locs := hB
          have hV_28 : MV (mSend ((mLock ((mTake u.2.2 i)) (gN u.2.2 76 (0) (i)) (gN u.2.2 74 (0) (i)) (gN ((mTake u.2.2 i)) 52 0 0))) (1) (gN u.2.2 75 (0) (i)) (gN u.2.2 74 (0) (i)) (gN u.2.2 76 (0) (i))) := mSend_V hV_23 hfr hto hof (by show gN (mLock ((mTake u.2.2 i)) (gN u.2.2 76 (0) (i)) (gN u.2.2 74 (0) (i)) (gN ((mTake u.2.2 i)) 52 0 0)) 72 0 0 < 2400; rw [mLock_N]; rw [mTake_72]; have := hk.1; omega)
          have hNm_29 : Nb (mSend ((mLock ((mTake u.2.2 i)) (gN u.2.2 76 (0) (i)) (gN u.2.2 74 (0) (i)) (gN ((mTake u.2.2 i)) 52 0 0))) (1) (gN u.2.2 75 (0) (i)) (gN u.2.2 74 (0) (i)) (gN u.2.2 76 (0) (i))) := mSend_Nb hNm_24 (by decide) hfr hto hof (by show gN (mLock ((mTake u.2.2 i)) (gN u.2.2 76 (0) (i)) (gN u.2.2 74 (0) (i)) (gN ((mTake u.2.2 i)) 52 0 0)) 72 0 0 < 2400; rw [mLock_N]; rw [mTake_72]; have := hk.1; omega)
          refine lv_goto (tgt := 314) hx hb dX5_comesNow_210 (by decide) ?_
          refine lv_iload_n hx hb dX5_comesNow_314 rfl (lv_at hl 3 rfl) ?_
          exact w_iret (v := nI (gN u.2.2 73 (0) (i))) hF hr hlocks hB (⟨congrArg (wM u) (by first | (simp [mComesNow, mGot, mGotAsk, mGotYes, mGotDrop, mY1, c_9, c_10, c_14]; done) | (simp [mComesNow, mGot, mGotAsk, mGotYes, mGotDrop, mY1, c_9, c_10, c_14]; rfl)), rfl⟩) dX5_comesNow_315
    by_cases c_30 : gN u.2.2 73 (0) (i) = 1
    · refine lv_tableIn (tgt := 213) hx hb dX5_comesNow_123 (by rw [c_30]; decide) (by rw [c_30]; decide) (by rw [c_30]; rfl) (by decide) ?_
      have hyy : gN (mTake u.2.2 i) 61 0 (gN u.2.2 76 0 i) < 1000 := by rw [mTake_f u.2.2 i (f := 61) (by decide)]; exact hk.2.2.2.1 _
      refine lv_aload_n hx hb dX5_comesNow_213 rfl (lv_at hl 0 rfl) ?_
      refine w_get (v := .ref (sA u 32 0)) (fk := 11) hF hB ha0 (cn_20 env (wM u (mTake u.2.2 i)) (0)) rfl in_X5 (by decide) tw_3_106 rfl rfl dX5_comesNow_214 ?_
      refine lv_iload hx hb dX5_comesNow_217 (lv_at hl 5 rfl) ?_
      refine lv_dup2_11 hx hb dX5_comesNow_219 rfl rfl ?_
      refine w_iald (v := .int (nI (gN (mTake u.2.2 i) 61 (0) (gN u.2.2 76 (0) (i))))) hF hB ⟨hM 32 (by decide), rfl⟩ (cn_32 env (wM u (mTake u.2.2 i)) (0)) (by have := hV.of (i); omega) rfl (by decide) dX5_comesNow_220 ?_
      refine lv_iconst (v := nI 1) hx hb dX5_comesNow_221 (by decide) ?_
      refine w_iadd_n hx hb dX5_comesNow_222 ?_
      refine w_iast (x := nI ((gN (mTake u.2.2 i) 61 (0) (gN u.2.2 76 (0) (i))) + 1)) hF hB ⟨hM 32 (by decide), rfl⟩ (wM u (uN (mTake u.2.2 i) 61 (0) (gN u.2.2 76 (0) (i)) ((gN (mTake u.2.2 i) 61 (0) (gN u.2.2 76 (0) (i))) + 1))) (cn_32 env (wM u (mTake u.2.2 i)) (0)) (by have := hV.of (i); omega) (by decide) rfl rfl (cu_N61 env (wM u (mTake u.2.2 i)) (0) (gN u.2.2 76 (0) (i)) ((gN (mTake u.2.2 i) 61 (0) (gN u.2.2 76 (0) (i))) + 1)) dX5_comesNow_223 (fun H locs hB => ?_)
      refine lv_aload_n hx hb dX5_comesNow_224 rfl (lv_at hl 0 rfl) ?_
      refine w_get (v := .ref (sA u 28 0)) (fk := 7) hF hB ha0 (cn_20 env (wM u (uN (mTake u.2.2 i) 61 (0) (gN u.2.2 76 (0) (i)) ((gN (mTake u.2.2 i) 61 (0) (gN u.2.2 76 (0) (i))) + 1))) (0)) rfl in_X5 (by decide) tw_3_102 rfl rfl dX5_comesNow_225 ?_
      refine lv_iload hx hb dX5_comesNow_228 (lv_at hl 5 rfl) ?_
      refine w_iald (v := .int (nI (gN (mTake u.2.2 i) 57 (0) (gN u.2.2 76 (0) (i))))) hF hB ⟨hM 28 (by decide), rfl⟩ (cn_28 env (wM u (uN (mTake u.2.2 i) 61 (0) (gN u.2.2 76 (0) (i)) ((gN (mTake u.2.2 i) 61 (0) (gN u.2.2 76 (0) (i))) + 1))) (0)) (by have := hV.of (i); omega) rfl (by decide) dX5_comesNow_230 ?_
      refine lv_iconst (v := nI 1) hx hb dX5_comesNow_231 (by decide) ?_
      refine w_icne_n (tgt := 314) (by have := hNm_8 57 (0) (gN u.2.2 76 (0) (i)); have := hNm 76 (0) (i); omega) (by decide) hx hb dX5_comesNow_232 (by decide) (fun c_31 => ?_) (fun c_31 => ?_)
      · refine lv_iload_n hx hb dX5_comesNow_314 rfl (lv_at hl 2 rfl) ?_
        exact w_iret (v := nI (gN u.2.2 73 (0) (i))) hF hr hlocks hB (⟨congrArg (wM u) (by first | (simp [mComesNow, mGot, mGotAsk, mGotYes, mGotDrop, mY1, c_9, c_30, c_31]; done) | (simp [mComesNow, mGot, mGotAsk, mGotYes, mGotDrop, mY1, c_9, c_30, c_31]; rfl)), rfl⟩) dX5_comesNow_315
      · refine lv_aload_n hx hb dX5_comesNow_235 rfl (lv_at hl 0 rfl) ?_
        refine w_get (v := .ref (sA u 32 0)) (fk := 11) hF hB ha0 (cn_20 env (wM u (uN (mTake u.2.2 i) 61 (0) (gN u.2.2 76 (0) (i)) ((gN (mTake u.2.2 i) 61 (0) (gN u.2.2 76 (0) (i))) + 1))) (0)) rfl in_X5 (by decide) tw_3_106 rfl rfl dX5_comesNow_236 ?_
        refine lv_iload hx hb dX5_comesNow_239 (lv_at hl 5 rfl) ?_
        refine w_iald (v := .int (nI ((gN (mTake u.2.2 i) 61 (0) (gN u.2.2 76 (0) (i))) + 1))) hF hB ⟨hM 32 (by decide), rfl⟩ (cn_32 env (wM u (uN (mTake u.2.2 i) 61 (0) (gN u.2.2 76 (0) (i)) ((gN (mTake u.2.2 i) 61 (0) (gN u.2.2 76 (0) (i))) + 1))) (0)) (by have := hV.of (i); omega) (by simp [wM, vN, vB, vI, vJ, uN, uB, uI, uJ, gN, gB, gI, gJ, up3]) (by decide) dX5_comesNow_241 ?_
        refine lv_aload_n hx hb dX5_comesNow_242 rfl (lv_at hl 0 rfl) ?_
        refine w_get (v := .ref (sA u 33 0)) (fk := 12) hF hB ha0 (cn_20 env (wM u (uN (mTake u.2.2 i) 61 (0) (gN u.2.2 76 (0) (i)) ((gN (mTake u.2.2 i) 61 (0) (gN u.2.2 76 (0) (i))) + 1))) (0)) rfl in_X5 (by decide) tw_3_107 rfl rfl dX5_comesNow_243 ?_
        refine lv_iload hx hb dX5_comesNow_246 (lv_at hl 5 rfl) ?_
        refine w_iald (v := .int (nI (gN (mTake u.2.2 i) 62 (0) (gN u.2.2 76 (0) (i))))) hF hB ⟨hM 33 (by decide), rfl⟩ (cn_33 env (wM u (uN (mTake u.2.2 i) 61 (0) (gN u.2.2 76 (0) (i)) ((gN (mTake u.2.2 i) 61 (0) (gN u.2.2 76 (0) (i))) + 1))) (0)) (by have := hV.of (i); omega) rfl (by decide) dX5_comesNow_248 ?_
        refine w_icne_n (tgt := 314) (by have := hNm_8 61 (0) (gN u.2.2 76 (0) (i)); have := hNm 76 (0) (i); omega) (by have := hNm_8 62 (0) (gN u.2.2 76 (0) (i)); have := hNm 76 (0) (i); omega) hx hb dX5_comesNow_249 (by decide) (fun c_32 => ?_) (fun c_32 => ?_)
        · refine lv_iload_n hx hb dX5_comesNow_314 rfl (lv_at hl 2 rfl) ?_
          exact w_iret (v := nI (gN u.2.2 73 (0) (i))) hF hr hlocks hB (⟨congrArg (wM u) (by first | (simp [mComesNow, mGot, mGotAsk, mGotYes, mGotDrop, mY1, c_9, c_30, c_31, c_32]; done) | (simp [mComesNow, mGot, mGotAsk, mGotYes, mGotDrop, mY1, c_9, c_30, c_31, c_32]; rfl)), rfl⟩) dX5_comesNow_315
        · refine lv_aload_n hx hb dX5_comesNow_252 rfl (lv_at hl 0 rfl) ?_
          refine lv_iload hx hb dX5_comesNow_253 (lv_at hl 5 rfl) ?_
          refine w_cv (r_V (As := [.int (nI (gN u.2.2 76 (0) (i)))]) (rest := []) hF hB (c_X5_becomes l env s0 X (wM u (uN (mTake u.2.2 i) 61 (0) (gN u.2.2 76 (0) (i)) ((gN (mTake u.2.2 i) 61 (0) (gN u.2.2 76 (0) (i))) + 1))) (a0) (0) (ha0) (gN u.2.2 76 (0) (i)) hM (show MV (uN (mTake u.2.2 i) 61 (0) (gN u.2.2 76 (0) (i)) ((gN (mTake u.2.2 i) 61 (0) (gN u.2.2 76 (0) (i))) + 1)) from hV_7) (Nb.uN hNm_8 (f := 61) (i := 0) (j := gN u.2.2 76 (0) (i)) (v := (gN (mTake u.2.2 i) 61 (0) (gN u.2.2 76 (0) (i))) + 1) (by have := hNm_8 61 (0) (gN u.2.2 76 (0) (i)); have := hNm 76 (0) (i); omega)) hof (by show gN (mTake u.2.2 i) 70 0 (gN (mTake u.2.2 i) 56 0 (gN u.2.2 76 0 i)) < 150; rw [mTake_f u.2.2 i (f := 70) (by decide), mTake_f u.2.2 i (f := 56) (by decide)]; refine hk.2.2.2.2.1 c_30 ?_; have q := c_31; rw [mTake_f u.2.2 i (f := 57) (by decide)] at q; exact q) (by show gN (mTake u.2.2 i) 68 0 _ < 1000; rw [mTake_f u.2.2 i (f := 68) (by decide)]; exact hk.2.1 _) (by show gN (mTake u.2.2 i) 72 0 0 + 4 ≤ 2400; rw [mTake_72]; have := hk.1; omega)) cv_X5_becomes tw_4_14 ⟨rfl, rfl, by decide, by decide⟩ (hB.recv ha0 (cn_20 env (wM u (uN (mTake u.2.2 i) 61 (0) (gN u.2.2 76 (0) (i)) ((gN (mTake u.2.2 i) 61 (0) (gN u.2.2 76 (0) (i))) + 1))) (0)) rfl) rfl hl.1 rfl (lv_room (by decide)) dX5_comesNow_255 ⟨Nat.le_of_ble_eq_true rfl, Nat.le_of_ble_eq_true rfl⟩) hB (fun u_35 H locs hq_34 hB => ?_)
          obtain rfl := hq_34
          replace hB : Bd env s0 X (wM u (mBecomes ((uN (mTake u.2.2 i) 61 (0) (gN u.2.2 76 (0) (i)) ((gN (mTake u.2.2 i) 61 (0) (gN u.2.2 76 (0) (i))) + 1))) (gN u.2.2 76 (0) (i)))) s H locs := hB
          have hV_36 : MV (mBecomes ((uN (mTake u.2.2 i) 61 (0) (gN u.2.2 76 (0) (i)) ((gN (mTake u.2.2 i) 61 (0) (gN u.2.2 76 (0) (i))) + 1))) (gN u.2.2 76 (0) (i))) := mBecomes_V (show MV (uN (mTake u.2.2 i) 61 (0) (gN u.2.2 76 (0) (i)) ((gN (mTake u.2.2 i) 61 (0) (gN u.2.2 76 (0) (i))) + 1)) from hV_7) hof (by show gN (mTake u.2.2 i) 70 0 (gN (mTake u.2.2 i) 56 0 (gN u.2.2 76 0 i)) < 150; rw [mTake_f u.2.2 i (f := 70) (by decide), mTake_f u.2.2 i (f := 56) (by decide)]; refine hk.2.2.2.2.1 c_30 ?_; have q := c_31; rw [mTake_f u.2.2 i (f := 57) (by decide)] at q; exact q) (by show gN (mTake u.2.2 i) 72 0 0 + 4 ≤ 2400; rw [mTake_72]; have := hk.1; omega)
          have hNm_37 : Nb (mBecomes ((uN (mTake u.2.2 i) 61 (0) (gN u.2.2 76 (0) (i)) ((gN (mTake u.2.2 i) 61 (0) (gN u.2.2 76 (0) (i))) + 1))) (gN u.2.2 76 (0) (i))) := mBecomes_Nb (show MV (uN (mTake u.2.2 i) 61 (0) (gN u.2.2 76 (0) (i)) ((gN (mTake u.2.2 i) 61 (0) (gN u.2.2 76 (0) (i))) + 1)) from hV_7) (Nb.uN hNm_8 (f := 61) (i := 0) (j := gN u.2.2 76 (0) (i)) (v := (gN (mTake u.2.2 i) 61 (0) (gN u.2.2 76 (0) (i))) + 1) (by have := hNm_8 61 (0) (gN u.2.2 76 (0) (i)); have := hNm 76 (0) (i); omega)) hof (by show gN (mTake u.2.2 i) 70 0 (gN (mTake u.2.2 i) 56 0 (gN u.2.2 76 0 i)) < 150; rw [mTake_f u.2.2 i (f := 70) (by decide), mTake_f u.2.2 i (f := 56) (by decide)]; refine hk.2.2.2.2.1 c_30 ?_; have q := c_31; rw [mTake_f u.2.2 i (f := 57) (by decide)] at q; exact q) (by show gN (mTake u.2.2 i) 68 0 _ < 1000; rw [mTake_f u.2.2 i (f := 68) (by decide)]; exact hk.2.1 _) (by show gN (mTake u.2.2 i) 72 0 0 + 4 ≤ 2400; rw [mTake_72]; have := hk.1; omega)
          refine lv_goto (tgt := 314) hx hb dX5_comesNow_258 (by decide) ?_
          refine lv_iload_n hx hb dX5_comesNow_314 rfl (lv_at hl 2 rfl) ?_
          exact w_iret (v := nI (gN u.2.2 73 (0) (i))) hF hr hlocks hB (⟨congrArg (wM u) (by first | (simp [mComesNow, mGot, mGotAsk, mGotYes, mGotDrop, mY1, c_9, c_30, c_31, c_32]; done) | (simp [mComesNow, mGot, mGotAsk, mGotYes, mGotDrop, mY1, c_9, c_30, c_31, c_32]; rfl)), rfl⟩) dX5_comesNow_315
    by_cases c_38 : gN u.2.2 73 (0) (i) = 2
    · refine lv_tableIn (tgt := 261) hx hb dX5_comesNow_123 (by rw [c_38]; decide) (by rw [c_38]; decide) (by rw [c_38]; rfl) (by decide) ?_
      refine lv_aload_n hx hb dX5_comesNow_261 rfl (lv_at hl 0 rfl) ?_
      refine lv_iload hx hb dX5_comesNow_262 (lv_at hl 5 rfl) ?_
      refine w_cv (r_V (As := [.int (nI (gN u.2.2 76 (0) (i)))]) (rest := []) hF hB (c_X5_refused l env s0 X (wM u (mTake u.2.2 i)) (a0) (0) (ha0) (gN u.2.2 76 (0) (i)) hM hV_7 hNm_8 hof (by show gN (mTake u.2.2 i) 72 0 0 + 4 ≤ 2400; rw [mTake_72]; have := hk.1; omega)) cv_X5_refused tw_4_58 ⟨rfl, rfl, by decide, by decide⟩ (hB.recv ha0 (cn_20 env (wM u (mTake u.2.2 i)) (0)) rfl) rfl hl.1 rfl (lv_room (by decide)) dX5_comesNow_264 ⟨Nat.le_of_ble_eq_true rfl, Nat.le_of_ble_eq_true rfl⟩) hB (fun u_41 H locs hq_40 hB => ?_)
      obtain rfl := hq_40
      replace hB : Bd env s0 X (wM u (mRefused ((mTake u.2.2 i)) (gN u.2.2 76 (0) (i)))) s H locs := hB
      have hV_42 : MV (mRefused ((mTake u.2.2 i)) (gN u.2.2 76 (0) (i))) := mRefused_V hV_7 hof (by show gN (mTake u.2.2 i) 72 0 0 + 4 ≤ 2400; rw [mTake_72]; have := hk.1; omega)
      have hNm_43 : Nb (mRefused ((mTake u.2.2 i)) (gN u.2.2 76 (0) (i))) := mRefused_Nb hV_7 hNm_8 hof (by show gN (mTake u.2.2 i) 72 0 0 + 4 ≤ 2400; rw [mTake_72]; have := hk.1; omega)
      refine lv_goto (tgt := 314) hx hb dX5_comesNow_267 (by decide) ?_
      refine lv_iload_n hx hb dX5_comesNow_314 rfl (lv_at hl 2 rfl) ?_
      exact w_iret (v := nI (gN u.2.2 73 (0) (i))) hF hr hlocks hB (⟨congrArg (wM u) (by first | (simp [mComesNow, mGot, mGotAsk, mGotYes, mGotDrop, mY1, c_9, c_30, c_38]; done) | (simp [mComesNow, mGot, mGotAsk, mGotYes, mGotDrop, mY1, c_9, c_30, c_38]; rfl)), rfl⟩) dX5_comesNow_315
    by_cases c_44 : gN u.2.2 73 (0) (i) = 3
    · refine lv_tableIn (tgt := 270) hx hb dX5_comesNow_123 (by rw [c_44]; decide) (by rw [c_44]; decide) (by rw [c_44]; rfl) (by decide) ?_
      refine lv_aload_n hx hb dX5_comesNow_270 rfl (lv_at hl 0 rfl) ?_
      refine w_get (v := .ref (sA u 34 0)) (fk := 13) hF hB ha0 (cn_20 env (wM u (mTake u.2.2 i)) (0)) rfl in_X5 (by decide) tw_3_108 rfl rfl dX5_comesNow_271 ?_
      refine lv_iconst (v := nI 4) hx hb dX5_comesNow_274 (by decide) ?_
      refine lv_iload hx hb dX5_comesNow_275 (lv_at hl 5 rfl) ?_
      refine w_imul_n hx hb dX5_comesNow_277 ?_
      refine lv_iload_n hx hb dX5_comesNow_278 rfl (lv_at hl 3 rfl) ?_
      refine w_iadd_n hx hb dX5_comesNow_279 ?_
      refine lv_iconst (v := nI 1) hx hb dX5_comesNow_280 (by decide) ?_
      refine w_zast (x := b2i (true)) hF hB ⟨hM 34 (by decide), rfl⟩ (wM u (uB (mTake u.2.2 i) 63 (0) ((4 * (gN u.2.2 76 (0) (i))) + (gN u.2.2 74 (0) (i))) (true))) (cn_34 env (wM u (mTake u.2.2 i)) (0)) (by have := hV.of (i); have := hV.to (i); omega) (by decide) (b2i_vnar _) rfl rfl (cu_B63 env (wM u (mTake u.2.2 i)) (0) ((4 * (gN u.2.2 76 (0) (i))) + (gN u.2.2 74 (0) (i))) (true)) dX5_comesNow_281 (fun H locs hB => ?_)
      refine lv_aload_n hx hb dX5_comesNow_282 rfl (lv_at hl 0 rfl) ?_
      refine lv_iload hx hb dX5_comesNow_283 (lv_at hl 5 rfl) ?_
      refine lv_iload_n hx hb dX5_comesNow_285 rfl (lv_at hl 3 rfl) ?_
      refine w_cv (r_V (As := [.int (nI (gN u.2.2 76 (0) (i))), .int (nI (gN u.2.2 74 (0) (i)))]) (rest := []) hF hB (c_X5_unlock l env s0 X (wM u (uB (mTake u.2.2 i) 63 (0) ((4 * (gN u.2.2 76 (0) (i))) + (gN u.2.2 74 (0) (i))) (true))) (a0) (0) (ha0) (gN u.2.2 76 (0) (i)) (gN u.2.2 74 (0) (i)) hM (show MV (uB (mTake u.2.2 i) 63 (0) ((4 * (gN u.2.2 76 (0) (i))) + (gN u.2.2 74 (0) (i))) (true)) from hV_7) hNm_8 hof hto) cv_X5_unlock tw_4_22 ⟨rfl, rfl, by decide, by decide⟩ (hB.recv ha0 (cn_20 env (wM u (uB (mTake u.2.2 i) 63 (0) ((4 * (gN u.2.2 76 (0) (i))) + (gN u.2.2 74 (0) (i))) (true))) (0)) rfl) rfl hl.1 rfl (lv_room (by decide)) dX5_comesNow_286 ⟨Nat.le_of_ble_eq_true rfl, Nat.le_of_ble_eq_true rfl⟩) hB (fun u_47 H locs hq_46 hB => ?_)
      obtain rfl := hq_46
      replace hB : Bd env s0 X (wM u (mUnlock ((uB (mTake u.2.2 i) 63 (0) ((4 * (gN u.2.2 76 (0) (i))) + (gN u.2.2 74 (0) (i))) (true))) (gN u.2.2 76 (0) (i)) (gN u.2.2 74 (0) (i)) (gN ((uB (mTake u.2.2 i) 63 (0) ((4 * (gN u.2.2 76 (0) (i))) + (gN u.2.2 74 (0) (i))) (true))) 52 0 0))) s H locs := hB
      have hV_48 : MV (mUnlock ((uB (mTake u.2.2 i) 63 (0) ((4 * (gN u.2.2 76 (0) (i))) + (gN u.2.2 74 (0) (i))) (true))) (gN u.2.2 76 (0) (i)) (gN u.2.2 74 (0) (i)) (gN ((uB (mTake u.2.2 i) 63 (0) ((4 * (gN u.2.2 76 (0) (i))) + (gN u.2.2 74 (0) (i))) (true))) 52 0 0)) := MV.ofN (mUnlock_N _ _ _ _) (show MV (uB (mTake u.2.2 i) 63 (0) ((4 * (gN u.2.2 76 (0) (i))) + (gN u.2.2 74 (0) (i))) (true)) from hV_7)
      have hNm_49 : Nb (mUnlock ((uB (mTake u.2.2 i) 63 (0) ((4 * (gN u.2.2 76 (0) (i))) + (gN u.2.2 74 (0) (i))) (true))) (gN u.2.2 76 (0) (i)) (gN u.2.2 74 (0) (i)) (gN ((uB (mTake u.2.2 i) 63 (0) ((4 * (gN u.2.2 76 (0) (i))) + (gN u.2.2 74 (0) (i))) (true))) 52 0 0)) := Nb.ofN (mUnlock_N _ _ _ _) hNm_8
      refine lv_goto (tgt := 314) hx hb dX5_comesNow_289 (by decide) ?_
      refine lv_iload_n hx hb dX5_comesNow_314 rfl (lv_at hl 2 rfl) ?_
      exact w_iret (v := nI (gN u.2.2 73 (0) (i))) hF hr hlocks hB (⟨congrArg (wM u) (by first | (simp [mComesNow, mGot, mGotAsk, mGotYes, mGotDrop, mY1, c_9, c_30, c_38, c_44]; done) | (simp [mComesNow, mGot, mGotAsk, mGotYes, mGotDrop, mY1, c_9, c_30, c_38, c_44]; rfl)), rfl⟩) dX5_comesNow_315
    by_cases c_50 : gN u.2.2 73 (0) (i) = 4
    · refine lv_tableIn (tgt := 292) hx hb dX5_comesNow_123 (by rw [c_50]; decide) (by rw [c_50]; decide) (by rw [c_50]; rfl) (by decide) ?_
      refine lv_aload_n hx hb dX5_comesNow_292 rfl (lv_at hl 0 rfl) ?_
      refine lv_iload_n hx hb dX5_comesNow_293 rfl (lv_at hl 3 rfl) ?_
      refine lv_iload hx hb dX5_comesNow_294 (lv_at hl 5 rfl) ?_
      refine lv_iconst (v := nI 0) hx hb dX5_comesNow_296 (by decide) ?_
      refine w_cv (r_V (As := [.int (nI (gN u.2.2 74 (0) (i))), .int (nI (gN u.2.2 76 (0) (i))), .int (nI (0))]) (rest := []) hF hB (c_X5_comes l env s0 X (wM u (mTake u.2.2 i)) (a0) (0) (ha0) (gN u.2.2 74 (0) (i)) (gN u.2.2 76 (0) (i)) (false) hM hV_7 hNm_8 hto hof (by show gN (mTake u.2.2 i) 70 0 _ < 150; rw [mTake_f u.2.2 i (f := 70) (by decide)]; exact hk.2.2.2.2.2 c_50) (by show gN (mTake u.2.2 i) 68 0 _ < 1000; rw [mTake_f u.2.2 i (f := 68) (by decide)]; exact hk.2.1 _) (fun _ => by show gN (mTake u.2.2 i) 72 0 0 < 2400; rw [mTake_72]; have := hk.1; omega)) cv_X5_comes tw_4_18 ⟨rfl, rfl, by decide, by decide⟩ (hB.recv ha0 (cn_20 env (wM u (mTake u.2.2 i)) (0)) rfl) rfl hl.1 rfl (lv_room (by decide)) dX5_comesNow_297 ⟨Nat.le_of_ble_eq_true rfl, Nat.le_of_ble_eq_true rfl⟩) hB (fun u_53 H locs hq_52 hB => ?_)
      obtain rfl := hq_52
      replace hB : Bd env s0 X (wM u (mComes ((mTake u.2.2 i)) (gN u.2.2 74 (0) (i)) (gN u.2.2 76 (0) (i)) (false))) s H locs := hB
      have hV_54 : MV (mComes ((mTake u.2.2 i)) (gN u.2.2 74 (0) (i)) (gN u.2.2 76 (0) (i)) (false)) := mComes_V hV_7 hto hof (by show gN (mTake u.2.2 i) 70 0 _ < 150; rw [mTake_f u.2.2 i (f := 70) (by decide)]; exact hk.2.2.2.2.2 c_50) (fun _ => by show gN (mTake u.2.2 i) 72 0 0 < 2400; rw [mTake_72]; have := hk.1; omega)
      have hNm_55 : Nb (mComes ((mTake u.2.2 i)) (gN u.2.2 74 (0) (i)) (gN u.2.2 76 (0) (i)) (false)) := mComes_Nb hV_7 hNm_8 hto hof (by show gN (mTake u.2.2 i) 70 0 _ < 150; rw [mTake_f u.2.2 i (f := 70) (by decide)]; exact hk.2.2.2.2.2 c_50) (by show gN (mTake u.2.2 i) 68 0 _ < 1000; rw [mTake_f u.2.2 i (f := 68) (by decide)]; exact hk.2.1 _) (fun _ => by show gN (mTake u.2.2 i) 72 0 0 < 2400; rw [mTake_72]; have := hk.1; omega)
      refine lv_goto (tgt := 314) hx hb dX5_comesNow_300 (by decide) ?_
      refine lv_iload_n hx hb dX5_comesNow_314 rfl (lv_at hl 2 rfl) ?_
      exact w_iret (v := nI (gN u.2.2 73 (0) (i))) hF hr hlocks hB (⟨congrArg (wM u) (by first | (simp [mComesNow, mGot, mGotAsk, mGotYes, mGotDrop, mY1, c_9, c_30, c_38, c_44, c_50]; done) | (simp [mComesNow, mGot, mGotAsk, mGotYes, mGotDrop, mY1, c_9, c_30, c_38, c_44, c_50]; rfl)), rfl⟩) dX5_comesNow_315
    refine lv_tableOut (tgt := 303) hx hb dX5_comesNow_123 (by rw [nI_toInt (by have := hNm 73 (0) (i); omega)]; omega) (by decide) ?_
    have haa : gN (mTake u.2.2 i) 60 0 (gN u.2.2 76 0 i) < 1000 := by rw [mTake_f u.2.2 i (f := 60) (by decide)]; exact hk.2.2.1 _
    refine lv_aload_n hx hb dX5_comesNow_303 rfl (lv_at hl 0 rfl) ?_
    refine w_get (v := .ref (sA u 31 0)) (fk := 10) hF hB ha0 (cn_20 env (wM u (mTake u.2.2 i)) (0)) rfl in_X5 (by decide) tw_3_105 rfl rfl dX5_comesNow_304 ?_
    refine lv_iload hx hb dX5_comesNow_307 (lv_at hl 5 rfl) ?_
    refine lv_dup2_11 hx hb dX5_comesNow_309 rfl rfl ?_
    refine w_iald (v := .int (nI (gN (mTake u.2.2 i) 60 (0) (gN u.2.2 76 (0) (i))))) hF hB ⟨hM 31 (by decide), rfl⟩ (cn_31 env (wM u (mTake u.2.2 i)) (0)) (by have := hV.of (i); omega) rfl (by decide) dX5_comesNow_310 ?_
    refine lv_iconst (v := nI 1) hx hb dX5_comesNow_311 (by decide) ?_
    refine w_iadd_n hx hb dX5_comesNow_312 ?_
    refine w_iast (x := nI ((gN (mTake u.2.2 i) 60 (0) (gN u.2.2 76 (0) (i))) + 1)) hF hB ⟨hM 31 (by decide), rfl⟩ (wM u (uN (mTake u.2.2 i) 60 (0) (gN u.2.2 76 (0) (i)) ((gN (mTake u.2.2 i) 60 (0) (gN u.2.2 76 (0) (i))) + 1))) (cn_31 env (wM u (mTake u.2.2 i)) (0)) (by have := hV.of (i); omega) (by decide) rfl rfl (cu_N60 env (wM u (mTake u.2.2 i)) (0) (gN u.2.2 76 (0) (i)) ((gN (mTake u.2.2 i) 60 (0) (gN u.2.2 76 (0) (i))) + 1)) dX5_comesNow_313 (fun H locs hB => ?_)
    refine lv_iload_n hx hb dX5_comesNow_314 rfl (lv_at hl 2 rfl) ?_
    exact w_iret (v := nI (gN u.2.2 73 (0) (i))) hF hr hlocks hB (⟨congrArg (wM u) (by first | (simp [mComesNow, mGot, mGotAsk, mGotYes, mGotDrop, mY1, c_9, c_30, c_38, c_44, c_50]; done) | (simp [mComesNow, mGot, mGotAsk, mGotYes, mGotDrop, mY1, c_9, c_30, c_38, c_44, c_50]; rfl)), rfl⟩) dX5_comesNow_315
  · rw [mShiftL_f _ _ (by decide), e72] at c_6
    refine lv_aload_n hx hb dX5_comesNow_52 rfl (lv_at hl 0 rfl) ?_
    refine w_get (v := .ref (sA u 44 0)) (fk := 23) hF hB ha0 (cn_20 env (wM u (mShiftL (uN u.2.2 72 0 0 (gN u.2.2 72 0 0 - 1)) i i_1)) (0)) rfl in_X5 (by decide) tw_3_118 rfl rfl dX5_comesNow_53 ?_
    refine lv_iload hx hb dX5_comesNow_56 (lv_at hl 6 rfl) ?_
    refine lv_aload_n hx hb dX5_comesNow_58 rfl (lv_at hl 0 rfl) ?_
    refine w_get (v := .ref (sA u 44 0)) (fk := 23) hF hB ha0 (cn_20 env (wM u (mShiftL (uN u.2.2 72 0 0 (gN u.2.2 72 0 0 - 1)) i i_1)) (0)) rfl in_X5 (by decide) tw_3_118 rfl rfl dX5_comesNow_59 ?_
    refine lv_iload hx hb dX5_comesNow_62 (lv_at hl 6 rfl) ?_
    refine lv_iconst (v := nI 1) hx hb dX5_comesNow_64 (by decide) ?_
    refine w_iadd_n hx hb dX5_comesNow_65 ?_
    refine w_iald (v := .int (nI (gN (mShiftL (uN u.2.2 72 0 0 (gN u.2.2 72 0 0 - 1)) i i_1) 73 (0) ((i + i_1) + 1)))) hF hB ⟨hM 44 (by decide), rfl⟩ (cn_44 env (wM u (mShiftL (uN u.2.2 72 0 0 (gN u.2.2 72 0 0 - 1)) i i_1)) (0)) (by omega) rfl (by decide) dX5_comesNow_66 ?_
    refine w_iast (x := nI (gN (mShiftL (uN u.2.2 72 0 0 (gN u.2.2 72 0 0 - 1)) i i_1) 73 (0) ((i + i_1) + 1))) hF hB ⟨hM 44 (by decide), rfl⟩ (wM u (uN (mShiftL (uN u.2.2 72 0 0 (gN u.2.2 72 0 0 - 1)) i i_1) 73 (0) (i + i_1) (gN (mShiftL (uN u.2.2 72 0 0 (gN u.2.2 72 0 0 - 1)) i i_1) 73 (0) ((i + i_1) + 1)))) (cn_44 env (wM u (mShiftL (uN u.2.2 72 0 0 (gN u.2.2 72 0 0 - 1)) i i_1)) (0)) (by omega) (by decide) rfl rfl (cu_N73 env (wM u (mShiftL (uN u.2.2 72 0 0 (gN u.2.2 72 0 0 - 1)) i i_1)) (0) (i + i_1) (gN (mShiftL (uN u.2.2 72 0 0 (gN u.2.2 72 0 0 - 1)) i i_1) 73 (0) ((i + i_1) + 1))) dX5_comesNow_67 (fun H locs hB => ?_)
    refine lv_aload_n hx hb dX5_comesNow_68 rfl (lv_at hl 0 rfl) ?_
    refine w_get (v := .ref (sA u 45 0)) (fk := 24) hF hB ha0 (cn_20 env (wM u (uN (mShiftL (uN u.2.2 72 0 0 (gN u.2.2 72 0 0 - 1)) i i_1) 73 (0) (i + i_1) (gN (mShiftL (uN u.2.2 72 0 0 (gN u.2.2 72 0 0 - 1)) i i_1) 73 (0) ((i + i_1) + 1)))) (0)) rfl in_X5 (by decide) tw_3_119 rfl rfl dX5_comesNow_69 ?_
    refine lv_iload hx hb dX5_comesNow_72 (lv_at hl 6 rfl) ?_
    refine lv_aload_n hx hb dX5_comesNow_74 rfl (lv_at hl 0 rfl) ?_
    refine w_get (v := .ref (sA u 45 0)) (fk := 24) hF hB ha0 (cn_20 env (wM u (uN (mShiftL (uN u.2.2 72 0 0 (gN u.2.2 72 0 0 - 1)) i i_1) 73 (0) (i + i_1) (gN (mShiftL (uN u.2.2 72 0 0 (gN u.2.2 72 0 0 - 1)) i i_1) 73 (0) ((i + i_1) + 1)))) (0)) rfl in_X5 (by decide) tw_3_119 rfl rfl dX5_comesNow_75 ?_
    refine lv_iload hx hb dX5_comesNow_78 (lv_at hl 6 rfl) ?_
    refine lv_iconst (v := nI 1) hx hb dX5_comesNow_80 (by decide) ?_
    refine w_iadd_n hx hb dX5_comesNow_81 ?_
    refine w_iald (v := .int (nI (gN (mShiftL (uN u.2.2 72 0 0 (gN u.2.2 72 0 0 - 1)) i i_1) 74 (0) ((i + i_1) + 1)))) hF hB ⟨hM 45 (by decide), rfl⟩ (cn_45 env (wM u (uN (mShiftL (uN u.2.2 72 0 0 (gN u.2.2 72 0 0 - 1)) i i_1) 73 (0) (i + i_1) (gN (mShiftL (uN u.2.2 72 0 0 (gN u.2.2 72 0 0 - 1)) i i_1) 73 (0) ((i + i_1) + 1)))) (0)) (by omega) rfl (by decide) dX5_comesNow_82 ?_
    refine w_iast (x := nI (gN (mShiftL (uN u.2.2 72 0 0 (gN u.2.2 72 0 0 - 1)) i i_1) 74 (0) ((i + i_1) + 1))) hF hB ⟨hM 45 (by decide), rfl⟩ (wM u (uN (uN (mShiftL (uN u.2.2 72 0 0 (gN u.2.2 72 0 0 - 1)) i i_1) 73 (0) (i + i_1) (gN (mShiftL (uN u.2.2 72 0 0 (gN u.2.2 72 0 0 - 1)) i i_1) 73 (0) ((i + i_1) + 1))) 74 (0) (i + i_1) (gN (mShiftL (uN u.2.2 72 0 0 (gN u.2.2 72 0 0 - 1)) i i_1) 74 (0) ((i + i_1) + 1)))) (cn_45 env (wM u (uN (mShiftL (uN u.2.2 72 0 0 (gN u.2.2 72 0 0 - 1)) i i_1) 73 (0) (i + i_1) (gN (mShiftL (uN u.2.2 72 0 0 (gN u.2.2 72 0 0 - 1)) i i_1) 73 (0) ((i + i_1) + 1)))) (0)) (by omega) (by decide) rfl rfl (cu_N74 env (wM u (uN (mShiftL (uN u.2.2 72 0 0 (gN u.2.2 72 0 0 - 1)) i i_1) 73 (0) (i + i_1) (gN (mShiftL (uN u.2.2 72 0 0 (gN u.2.2 72 0 0 - 1)) i i_1) 73 (0) ((i + i_1) + 1)))) (0) (i + i_1) (gN (mShiftL (uN u.2.2 72 0 0 (gN u.2.2 72 0 0 - 1)) i i_1) 74 (0) ((i + i_1) + 1))) dX5_comesNow_83 (fun H locs hB => ?_)
    refine lv_aload_n hx hb dX5_comesNow_84 rfl (lv_at hl 0 rfl) ?_
    refine w_get (v := .ref (sA u 46 0)) (fk := 25) hF hB ha0 (cn_20 env (wM u (uN (uN (mShiftL (uN u.2.2 72 0 0 (gN u.2.2 72 0 0 - 1)) i i_1) 73 (0) (i + i_1) (gN (mShiftL (uN u.2.2 72 0 0 (gN u.2.2 72 0 0 - 1)) i i_1) 73 (0) ((i + i_1) + 1))) 74 (0) (i + i_1) (gN (mShiftL (uN u.2.2 72 0 0 (gN u.2.2 72 0 0 - 1)) i i_1) 74 (0) ((i + i_1) + 1)))) (0)) rfl in_X5 (by decide) tw_3_120 rfl rfl dX5_comesNow_85 ?_
    refine lv_iload hx hb dX5_comesNow_88 (lv_at hl 6 rfl) ?_
    refine lv_aload_n hx hb dX5_comesNow_90 rfl (lv_at hl 0 rfl) ?_
    refine w_get (v := .ref (sA u 46 0)) (fk := 25) hF hB ha0 (cn_20 env (wM u (uN (uN (mShiftL (uN u.2.2 72 0 0 (gN u.2.2 72 0 0 - 1)) i i_1) 73 (0) (i + i_1) (gN (mShiftL (uN u.2.2 72 0 0 (gN u.2.2 72 0 0 - 1)) i i_1) 73 (0) ((i + i_1) + 1))) 74 (0) (i + i_1) (gN (mShiftL (uN u.2.2 72 0 0 (gN u.2.2 72 0 0 - 1)) i i_1) 74 (0) ((i + i_1) + 1)))) (0)) rfl in_X5 (by decide) tw_3_120 rfl rfl dX5_comesNow_91 ?_
    refine lv_iload hx hb dX5_comesNow_94 (lv_at hl 6 rfl) ?_
    refine lv_iconst (v := nI 1) hx hb dX5_comesNow_96 (by decide) ?_
    refine w_iadd_n hx hb dX5_comesNow_97 ?_
    refine w_iald (v := .int (nI (gN (mShiftL (uN u.2.2 72 0 0 (gN u.2.2 72 0 0 - 1)) i i_1) 75 (0) ((i + i_1) + 1)))) hF hB ⟨hM 46 (by decide), rfl⟩ (cn_46 env (wM u (uN (uN (mShiftL (uN u.2.2 72 0 0 (gN u.2.2 72 0 0 - 1)) i i_1) 73 (0) (i + i_1) (gN (mShiftL (uN u.2.2 72 0 0 (gN u.2.2 72 0 0 - 1)) i i_1) 73 (0) ((i + i_1) + 1))) 74 (0) (i + i_1) (gN (mShiftL (uN u.2.2 72 0 0 (gN u.2.2 72 0 0 - 1)) i i_1) 74 (0) ((i + i_1) + 1)))) (0)) (by omega) rfl (by decide) dX5_comesNow_98 ?_
    refine w_iast (x := nI (gN (mShiftL (uN u.2.2 72 0 0 (gN u.2.2 72 0 0 - 1)) i i_1) 75 (0) ((i + i_1) + 1))) hF hB ⟨hM 46 (by decide), rfl⟩ (wM u (uN (uN (uN (mShiftL (uN u.2.2 72 0 0 (gN u.2.2 72 0 0 - 1)) i i_1) 73 (0) (i + i_1) (gN (mShiftL (uN u.2.2 72 0 0 (gN u.2.2 72 0 0 - 1)) i i_1) 73 (0) ((i + i_1) + 1))) 74 (0) (i + i_1) (gN (mShiftL (uN u.2.2 72 0 0 (gN u.2.2 72 0 0 - 1)) i i_1) 74 (0) ((i + i_1) + 1))) 75 (0) (i + i_1) (gN (mShiftL (uN u.2.2 72 0 0 (gN u.2.2 72 0 0 - 1)) i i_1) 75 (0) ((i + i_1) + 1)))) (cn_46 env (wM u (uN (uN (mShiftL (uN u.2.2 72 0 0 (gN u.2.2 72 0 0 - 1)) i i_1) 73 (0) (i + i_1) (gN (mShiftL (uN u.2.2 72 0 0 (gN u.2.2 72 0 0 - 1)) i i_1) 73 (0) ((i + i_1) + 1))) 74 (0) (i + i_1) (gN (mShiftL (uN u.2.2 72 0 0 (gN u.2.2 72 0 0 - 1)) i i_1) 74 (0) ((i + i_1) + 1)))) (0)) (by omega) (by decide) rfl rfl (cu_N75 env (wM u (uN (uN (mShiftL (uN u.2.2 72 0 0 (gN u.2.2 72 0 0 - 1)) i i_1) 73 (0) (i + i_1) (gN (mShiftL (uN u.2.2 72 0 0 (gN u.2.2 72 0 0 - 1)) i i_1) 73 (0) ((i + i_1) + 1))) 74 (0) (i + i_1) (gN (mShiftL (uN u.2.2 72 0 0 (gN u.2.2 72 0 0 - 1)) i i_1) 74 (0) ((i + i_1) + 1)))) (0) (i + i_1) (gN (mShiftL (uN u.2.2 72 0 0 (gN u.2.2 72 0 0 - 1)) i i_1) 75 (0) ((i + i_1) + 1))) dX5_comesNow_99 (fun H locs hB => ?_)
    refine lv_aload_n hx hb dX5_comesNow_100 rfl (lv_at hl 0 rfl) ?_
    refine w_get (v := .ref (sA u 47 0)) (fk := 26) hF hB ha0 (cn_20 env (wM u (uN (uN (uN (mShiftL (uN u.2.2 72 0 0 (gN u.2.2 72 0 0 - 1)) i i_1) 73 (0) (i + i_1) (gN (mShiftL (uN u.2.2 72 0 0 (gN u.2.2 72 0 0 - 1)) i i_1) 73 (0) ((i + i_1) + 1))) 74 (0) (i + i_1) (gN (mShiftL (uN u.2.2 72 0 0 (gN u.2.2 72 0 0 - 1)) i i_1) 74 (0) ((i + i_1) + 1))) 75 (0) (i + i_1) (gN (mShiftL (uN u.2.2 72 0 0 (gN u.2.2 72 0 0 - 1)) i i_1) 75 (0) ((i + i_1) + 1)))) (0)) rfl in_X5 (by decide) tw_3_121 rfl rfl dX5_comesNow_101 ?_
    refine lv_iload hx hb dX5_comesNow_104 (lv_at hl 6 rfl) ?_
    refine lv_aload_n hx hb dX5_comesNow_106 rfl (lv_at hl 0 rfl) ?_
    refine w_get (v := .ref (sA u 47 0)) (fk := 26) hF hB ha0 (cn_20 env (wM u (uN (uN (uN (mShiftL (uN u.2.2 72 0 0 (gN u.2.2 72 0 0 - 1)) i i_1) 73 (0) (i + i_1) (gN (mShiftL (uN u.2.2 72 0 0 (gN u.2.2 72 0 0 - 1)) i i_1) 73 (0) ((i + i_1) + 1))) 74 (0) (i + i_1) (gN (mShiftL (uN u.2.2 72 0 0 (gN u.2.2 72 0 0 - 1)) i i_1) 74 (0) ((i + i_1) + 1))) 75 (0) (i + i_1) (gN (mShiftL (uN u.2.2 72 0 0 (gN u.2.2 72 0 0 - 1)) i i_1) 75 (0) ((i + i_1) + 1)))) (0)) rfl in_X5 (by decide) tw_3_121 rfl rfl dX5_comesNow_107 ?_
    refine lv_iload hx hb dX5_comesNow_110 (lv_at hl 6 rfl) ?_
    refine lv_iconst (v := nI 1) hx hb dX5_comesNow_112 (by decide) ?_
    refine w_iadd_n hx hb dX5_comesNow_113 ?_
    refine w_iald (v := .int (nI (gN (mShiftL (uN u.2.2 72 0 0 (gN u.2.2 72 0 0 - 1)) i i_1) 76 (0) ((i + i_1) + 1)))) hF hB ⟨hM 47 (by decide), rfl⟩ (cn_47 env (wM u (uN (uN (uN (mShiftL (uN u.2.2 72 0 0 (gN u.2.2 72 0 0 - 1)) i i_1) 73 (0) (i + i_1) (gN (mShiftL (uN u.2.2 72 0 0 (gN u.2.2 72 0 0 - 1)) i i_1) 73 (0) ((i + i_1) + 1))) 74 (0) (i + i_1) (gN (mShiftL (uN u.2.2 72 0 0 (gN u.2.2 72 0 0 - 1)) i i_1) 74 (0) ((i + i_1) + 1))) 75 (0) (i + i_1) (gN (mShiftL (uN u.2.2 72 0 0 (gN u.2.2 72 0 0 - 1)) i i_1) 75 (0) ((i + i_1) + 1)))) (0)) (by omega) rfl (by decide) dX5_comesNow_114 ?_
    refine w_iast (x := nI (gN (mShiftL (uN u.2.2 72 0 0 (gN u.2.2 72 0 0 - 1)) i i_1) 76 (0) ((i + i_1) + 1))) hF hB ⟨hM 47 (by decide), rfl⟩ (wM u (uN (uN (uN (uN (mShiftL (uN u.2.2 72 0 0 (gN u.2.2 72 0 0 - 1)) i i_1) 73 (0) (i + i_1) (gN (mShiftL (uN u.2.2 72 0 0 (gN u.2.2 72 0 0 - 1)) i i_1) 73 (0) ((i + i_1) + 1))) 74 (0) (i + i_1) (gN (mShiftL (uN u.2.2 72 0 0 (gN u.2.2 72 0 0 - 1)) i i_1) 74 (0) ((i + i_1) + 1))) 75 (0) (i + i_1) (gN (mShiftL (uN u.2.2 72 0 0 (gN u.2.2 72 0 0 - 1)) i i_1) 75 (0) ((i + i_1) + 1))) 76 (0) (i + i_1) (gN (mShiftL (uN u.2.2 72 0 0 (gN u.2.2 72 0 0 - 1)) i i_1) 76 (0) ((i + i_1) + 1)))) (cn_47 env (wM u (uN (uN (uN (mShiftL (uN u.2.2 72 0 0 (gN u.2.2 72 0 0 - 1)) i i_1) 73 (0) (i + i_1) (gN (mShiftL (uN u.2.2 72 0 0 (gN u.2.2 72 0 0 - 1)) i i_1) 73 (0) ((i + i_1) + 1))) 74 (0) (i + i_1) (gN (mShiftL (uN u.2.2 72 0 0 (gN u.2.2 72 0 0 - 1)) i i_1) 74 (0) ((i + i_1) + 1))) 75 (0) (i + i_1) (gN (mShiftL (uN u.2.2 72 0 0 (gN u.2.2 72 0 0 - 1)) i i_1) 75 (0) ((i + i_1) + 1)))) (0)) (by omega) (by decide) rfl rfl (cu_N76 env (wM u (uN (uN (uN (mShiftL (uN u.2.2 72 0 0 (gN u.2.2 72 0 0 - 1)) i i_1) 73 (0) (i + i_1) (gN (mShiftL (uN u.2.2 72 0 0 (gN u.2.2 72 0 0 - 1)) i i_1) 73 (0) ((i + i_1) + 1))) 74 (0) (i + i_1) (gN (mShiftL (uN u.2.2 72 0 0 (gN u.2.2 72 0 0 - 1)) i i_1) 74 (0) ((i + i_1) + 1))) 75 (0) (i + i_1) (gN (mShiftL (uN u.2.2 72 0 0 (gN u.2.2 72 0 0 - 1)) i i_1) 75 (0) ((i + i_1) + 1)))) (0) (i + i_1) (gN (mShiftL (uN u.2.2 72 0 0 (gN u.2.2 72 0 0 - 1)) i i_1) 76 (0) ((i + i_1) + 1))) dX5_comesNow_115 (fun H locs hB => ?_)
    refine lv_iinc (v := nI ((i + i_1) + 1)) (lv' := [(6, .int (nI ((i + i_1) + 1))), (0, .ref (a0)), (1, .int (nI (i))), (2, .int (nI (gN u.2.2 73 (0) (i)))), (3, .int (nI (gN u.2.2 74 (0) (i)))), (4, .int (nI (gN u.2.2 75 (0) (i)))), (5, .int (nI (gN u.2.2 76 (0) (i))))]) hx hb dX5_comesNow_116 hl (k := 6) rfl (nI_add _ _) (by decide) rfl (fun ls hl => ?_)
    refine lv_goto (tgt := 43) hx hb dX5_comesNow_119 (by decide) ?_
    have em_56 : (mShiftL (uN u.2.2 72 0 0 (gN u.2.2 72 0 0 - 1)) i (i_1 + 1)) = (uN (uN (uN (uN (mShiftL (uN u.2.2 72 0 0 (gN u.2.2 72 0 0 - 1)) i i_1) 73 (0) (i + i_1) (gN (mShiftL (uN u.2.2 72 0 0 (gN u.2.2 72 0 0 - 1)) i i_1) 73 (0) ((i + i_1) + 1))) 74 (0) (i + i_1) (gN (mShiftL (uN u.2.2 72 0 0 (gN u.2.2 72 0 0 - 1)) i i_1) 74 (0) ((i + i_1) + 1))) 75 (0) (i + i_1) (gN (mShiftL (uN u.2.2 72 0 0 (gN u.2.2 72 0 0 - 1)) i i_1) 75 (0) ((i + i_1) + 1))) 76 (0) (i + i_1) (gN (mShiftL (uN u.2.2 72 0 0 (gN u.2.2 72 0 0 - 1)) i i_1) 76 (0) ((i + i_1) + 1))) := rfl
    exact ih43 (H, locs, ls) (by omega) ⟨trivial, (by rw [em_56]; exact hB), by exact lv_sub hl [1, 2, 3, 4, 5, 6, 0] rfl⟩

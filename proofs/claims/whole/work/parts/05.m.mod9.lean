set_option maxHeartbeats 4000000 in
set_option maxRecDepth 100000 in
theorem c_X5_deliver (l : Launch) (env : Ev) (s0 : Nat) (X : va_W) (u : St) (a0 : Nat) (_xa0 : Nat) (ha0 : At u 20 (0) a0) (v1 : Int32) (hM : MI u) (hV : MV u.2.2) (hNm : Nb u.2.2) (hok : ∀ i, i < gN u.2.2 72 0 0 → mCanCome u.2.2 i = true → mOK u.2.2 i) : Met l yX5_deliver [Cond.code yX5_deliver cX5_deliver 2 (some .int)] { frames := 4, cells := 0, slots := 0, locals := 98 } (va_Pc [.ref (a0), .int (v1)] (Pr env s0 X u)) (va_Qi (fun r u' => u' = wM u ((mdeliver u.2.2 v1).2) ∧ r = (mdeliver u.2.2 v1).1) (Po env s0 X) (fun q => s0 ≤ q)) 0 0 (fun q => s0 ≤ q) := by
  refine Met.ofW (cc := cX5_deliver) (maxL := 2) (ret := (some .int)) (by decide) rfl ?_
  intro p e s m args below meth c s₁ B hml hv
  obtain ⟨rfl, hv⟩ := hv
  have hx := B.exec
  have hb := B.bytes
  have hr := B.returns
  have hts : ∀ ww ∈ TT, ww.before #[.ref (a0), .int (v1)] s = true := fun ww hw => hv.2.1 ww hw _
  have hown : s.vm.findClass RX5 = some m.cls := findClass_of_methodNamed B.named
  have hlocks := B.notSynchronized
  have hF : CallFix p m c cX5_deliver 2 s #[.ref (a0), .int (v1)] TT RX5 := ⟨hx, hb, hml, hown, hts⟩
  have hB := Bd.entry hv
  have hl := lv_entry ([.ref (a0), .int (v1)]) (n := 2) (Nat.le_of_ble_eq_true rfl)
  rw [lg_entry_eq]
  generalize (lg_sl ([.ref (a0), .int (v1)]) ++ List.replicate (2 - (lg_sl ([.ref (a0), .int (v1)])).length) Slot.unset).toArray = ls at hl ⊢
  have hl : lv_has ls 2 [(0, .ref (a0)), (1, .int (v1))] := hl
  have hn1 := hV.nth
  have hn2 := hV.ntx
  have hn3 := hV.nst
  have hn4 := hV.nms
  refine lv_aload_n hx hb dX5_deliver_0 rfl (lv_at hl 0 rfl) ?_
  refine lv_iload_n hx hb dX5_deliver_1 rfl (lv_at hl 1 rfl) ?_
  refine w_ci (r_V (As := [.int (v1)]) (rest := []) hF hB (c_X5_isMessage l env s0 X u (a0) (0) (ha0) (v1) hM hNm) cv_X5_isMessage tw_4_46 ⟨rfl, rfl, by decide, by decide⟩ (hB.recv ha0 (cn_20 env u (0)) rfl) rfl hl.1 rfl (lv_room (by decide)) dX5_deliver_2 ⟨Nat.le_of_ble_eq_true rfl, Nat.le_of_ble_eq_true rfl⟩) hB (fun r_1 u_3 H locs hq_2 hB => ?_)
  obtain ⟨rfl, rfl⟩ := hq_2
  refine w_ifne_b (tgt := 10) hx hb dX5_deliver_5 (by decide) (fun c_4 => ?_) (fun c_4 => ?_)
  · obtain ⟨j_5, hj_6⟩ := Option.isSome_iff_exists.mp c_4
    obtain ⟨hjl_7, rfl⟩ := ix_some (by have := hNm 72 0 0; omega) hj_6
    refine lv_aload_n hx hb dX5_deliver_10 rfl (lv_at hl 0 rfl) ?_
    refine lv_iload_n hx hb dX5_deliver_11 rfl (lv_at hl 1 rfl) ?_
    refine w_ci (r_V (As := [.int (nI (j_5))]) (rest := []) hF hB (c_X5_canCome l env s0 X u (a0) (0) (ha0) (j_5) hM hV hNm (by omega)) cv_X5_canCome tw_4_50 ⟨rfl, rfl, by decide, by decide⟩ (hB.recv ha0 (cn_20 env u (0)) rfl) rfl hl.1 rfl (lv_room (by decide)) dX5_deliver_12 ⟨Nat.le_of_ble_eq_true rfl, Nat.le_of_ble_eq_true rfl⟩) hB (fun r_8 u_10 H locs hq_9 hB => ?_)
    obtain ⟨rfl, rfl⟩ := hq_9
    refine w_ifeq_b (tgt := 26) hx hb dX5_deliver_15 (by decide) (fun c_11 => ?_) (fun c_11 => ?_)
    · refine lv_bipush (v := -2) hx hb dX5_deliver_26 (by decide) ?_
      exact w_iret (v := -2) hF hr hlocks hB (⟨by first | (simp [mdeliver, hj_6, c_11]; done) | (simp [mdeliver, hj_6, c_11]; rfl) | (simp [mdeliver, hj_6, c_11] <;> omega), by first | (simp [mdeliver, hj_6, c_11]; done) | (simp [mdeliver, hj_6, c_11]; rfl) | (simp [mdeliver, hj_6, c_11] <;> omega)⟩) dX5_deliver_28
    · refine lv_aload_n hx hb dX5_deliver_18 rfl (lv_at hl 0 rfl) ?_
      refine lv_iload_n hx hb dX5_deliver_19 rfl (lv_at hl 1 rfl) ?_
      refine w_ci (r_V (As := [.int (nI (j_5))]) (rest := []) hF hB (c_X5_comesNow l env s0 X u (a0) (0) (ha0) (j_5) hM hV hNm hjl_7 (hok _ hjl_7 c_11)) cv_X5_comesNow tw_4_54 ⟨rfl, rfl, by decide, by decide⟩ (hB.recv ha0 (cn_20 env u (0)) rfl) rfl hl.1 rfl (lv_room (by decide)) dX5_deliver_20 ⟨Nat.le_of_ble_eq_true rfl, Nat.le_of_ble_eq_true rfl⟩) hB (fun r_12 u_14 H locs hq_13 hB => ?_)
      obtain ⟨rfl, rfl⟩ := hq_13
      replace hB : Bd env s0 X (wM u (mComesNow u.2.2 (j_5))) s H locs := hB
      have hV_15 : MV (mComesNow u.2.2 (j_5)) := mComesNow_V hV (hok _ hjl_7 c_11)
      have hNm_16 : Nb (mComesNow u.2.2 (j_5)) := mComesNow_Nb hV hNm (hok _ hjl_7 c_11)
      refine lv_goto (tgt := 28) hx hb dX5_deliver_23 (by decide) ?_
      exact w_iret (v := nI (gN u.2.2 73 0 (j_5))) hF hr hlocks hB (⟨by first | (simp [mdeliver, hj_6, c_11]; done) | (simp [mdeliver, hj_6, c_11]; rfl) | (simp [mdeliver, hj_6, c_11] <;> omega), by first | (simp [mdeliver, hj_6, c_11]; done) | (simp [mdeliver, hj_6, c_11]; rfl) | (simp [mdeliver, hj_6, c_11] <;> omega)⟩) dX5_deliver_28
  · have hj_17 := Option.isSome_eq_false_iff.mp c_4
    rw [Option.isNone_iff_eq_none] at hj_17
    refine lv_iconst (v := -1) hx hb dX5_deliver_8 (by decide) ?_
    exact w_iret (v := -1) hF hr hlocks hB (⟨by first | (simp [mdeliver, hj_17]; done) | (simp [mdeliver, hj_17]; rfl) | (simp [mdeliver, hj_17] <;> omega), by first | (simp [mdeliver, hj_17]; done) | (simp [mdeliver, hj_17]; rfl) | (simp [mdeliver, hj_17] <;> omega)⟩) dX5_deliver_9
set_option maxHeartbeats 4000000 in
set_option maxRecDepth 100000 in
theorem c_X5_all (l : Launch) (env : Ev) (s0 : Nat) (X : va_W) (u : St) (a0 : Nat) (_xa0 : Nat) (ha0 : At u 20 (0) a0) (v1 : Int32) (hM : MI u) (hV : MV u.2.2) (hNm : Nb u.2.2) (Pm : Lg → Prop) (hP0 : Pm u.2.2) (hPs : ∀ g i, Pm g → MV g → Nb g → i < gN g 72 0 0 → mCanCome g i = true → mOK g i ∧ Pm (mComesNow g i)) : Met l yX5_all [Cond.code yX5_all cX5_all 5 (some .int)] { frames := 4, cells := 0, slots := 0, locals := 98 } (va_Pc [.ref (a0), .int (v1)] (Pr env s0 X u)) (va_Qi (fun r u' => u' = wM u ((mall u.2.2 v1).2) ∧ r = (mall u.2.2 v1).1) (Po env s0 X) (fun q => s0 ≤ q)) 0 0 (fun q => s0 ≤ q) := by
  refine Met.ofW (cc := cX5_all) (maxL := 5) (ret := (some .int)) (by decide) rfl ?_
  intro p e s m args below meth c s₁ B hml hv
  obtain ⟨rfl, hv⟩ := hv
  have hx := B.exec
  have hb := B.bytes
  have hr := B.returns
  have hts : ∀ ww ∈ TT, ww.before #[.ref (a0), .int (v1)] s = true := fun ww hw => hv.2.1 ww hw _
  have hown : s.vm.findClass RX5 = some m.cls := findClass_of_methodNamed B.named
  have hlocks := B.notSynchronized
  have hF : CallFix p m c cX5_all 5 s #[.ref (a0), .int (v1)] TT RX5 := ⟨hx, hb, hml, hown, hts⟩
  have hB := Bd.entry hv
  have hl := lv_entry ([.ref (a0), .int (v1)]) (n := 5) (Nat.le_of_ble_eq_true rfl)
  rw [lg_entry_eq]
  generalize (lg_sl ([.ref (a0), .int (v1)]) ++ List.replicate (5 - (lg_sl ([.ref (a0), .int (v1)])).length) Slot.unset).toArray = ls at hl ⊢
  have hl : lv_has ls 5 [(0, .ref (a0)), (1, .int (v1))] := hl
  have hn1 := hV.nth
  have hn2 := hV.ntx
  have hn3 := hV.nst
  have hn4 := hV.nms
  refine lv_iload_n hx hb dX5_all_0 rfl (lv_at hl 1 rfl) ?_
  refine lv_i2l hx hb dX5_all_1 rfl ?_
  refine lv_lconst (v := 0) hx hb dX5_all_2 (by decide) ?_
  refine lv_ldc2 (v := 500) hx hb hown (hts _ tw_4_66) dX5_all_3 ?_
  refine w_ci (r_S (As := [.long ((v1).toInt64), .long (0), .long (500)]) (rest := []) hF hB (c_X5_in l env s0 X u ((v1).toInt64) (0) (500) ) cs_X5_in tw_3_183 ⟨rfl, rfl, by decide, by decide⟩ rfl hl.1 rfl (lv_room (by decide)) dX5_all_6 ⟨Nat.le_of_ble_eq_true rfl, Nat.le_of_ble_eq_true rfl⟩) hB (fun r_1 u_3 H locs hq_2 hB => ?_)
  obtain ⟨rfl, rfl⟩ := hq_2
  refine w_ifne_b (tgt := 14) hx hb dX5_all_9 (by decide) (fun c_4 => ?_) (fun c_4 => ?_)
  · have hi_5 := (in_500 v1).symm.trans c_4
    obtain ⟨j_6, hj_7⟩ := Option.isSome_iff_exists.mp hi_5
    obtain ⟨hjl_8, rfl⟩ := ix_some (by decide) hj_7
    refine lv_iconst (v := nI 0) hx hb dX5_all_14 (by decide) ?_
    refine lv_istore_n (lv' := [(2, .int (nI (0))), (0, .ref (a0)), (1, .int (nI (j_6)))]) hx hb dX5_all_15 rfl hl (by decide) rfl (fun ls hl => ?_)
    refine lv_iconst (v := nI 1) hx hb dX5_all_16 (by decide) ?_
    refine lv_istore_n (lv' := [(3, .int (nI (1))), (2, .int (nI (0))), (0, .ref (a0)), (1, .int (nI (j_6)))]) hx hb dX5_all_17 rfl hl (by decide) rfl (fun ls hl => ?_)
    refine wloopH (σ := Heap × List Loc × Array Slot) (G := fun x => W p l e _ s m _ below meth c x.1 x.2.1 _ _ _ (F0 m 18 x.2.2 [])) (P := fun i_9 x => (mAllC u.2.2 i_9 = i_9 ∧ Pm (mAllF u.2.2 i_9) ∧ MV (mAllF u.2.2 i_9) ∧ Nb (mAllF u.2.2 i_9)) ∧ Bd env s0 X (wM u (mAllF u.2.2 i_9)) s x.1 x.2.1 ∧ lv_has x.2.2 5 [(0, .ref (a0)), (1, .int (nI (j_6))), (2, .int (nI (i_9))), (3, .int (nI (1)))]) (N := j_6) ?_ 0 (_, _, ls) (Nat.zero_le _) ⟨⟨rfl, hP0, hV, hNm⟩, hB, lv_sub hl [2, 3, 1, 0] rfl⟩
    rintro i_9 ⟨H, locs, ls⟩ hi_10 ⟨hv_11, hB, hl⟩ ih18
    replace hB : Bd env s0 X (wM u (mAllF u.2.2 i_9)) s H locs := hB
    replace hl : lv_has ls 5 [(0, .ref (a0)), (1, .int (nI (j_6))), (2, .int (nI (i_9))), (3, .int (nI (1)))] := hl
    show W p l e _ s m _ below meth c H locs _ _ _ (F0 m 18 ls [])
    have hV_12 : MV (mAllF u.2.2 i_9) := hv_11.2.2.1
    have hNm_13 : Nb (mAllF u.2.2 i_9) := hv_11.2.2.2
    refine lv_iload_n hx hb dX5_all_18 rfl (lv_at hl 3 rfl) ?_
    refine w_ifeq_n (tgt := 86) (by decide) hx hb dX5_all_19 (by decide) (fun c => absurd c (by decide)) (fun _ => ?_)
    refine lv_iload_n hx hb dX5_all_22 rfl (lv_at hl 2 rfl) ?_
    refine lv_iload_n hx hb dX5_all_23 rfl (lv_at hl 1 rfl) ?_
    refine w_icge_n (tgt := 86) (by omega) (by omega) hx hb dX5_all_24 (by decide) (fun c_14 => ?_) (fun c_14 => ?_)
    · refine lv_iload_n hx hb dX5_all_86 rfl (lv_at hl 2 rfl) ?_
      have ek_15 : j_6 = i_9 := by omega
      exact w_iret (v := nI i_9) hF hr hlocks hB (⟨by simp only [mall, hj_7]; rw [ek_15], by simp only [mall, hj_7]; rw [ek_15, hv_11.1]⟩) dX5_all_87
    · refine lv_iconst (v := nI 0) hx hb dX5_all_27 (by decide) ?_
      refine lv_istore (lv' := [(4, .int (nI (0))), (0, .ref (a0)), (1, .int (nI (j_6))), (2, .int (nI (i_9))), (3, .int (nI (1)))]) hx hb dX5_all_28 hl (by decide) rfl (fun ls hl => ?_)
      refine wloopH (σ := Heap × List Loc × Array Slot) (G := fun x => W p l e _ s m _ below meth c x.1 x.2.1 _ _ _ (F0 m 30 x.2.2 [])) (P := fun i_16 x => (∀ q, q < i_16 → mCanCome (mAllF u.2.2 i_9) q = false) ∧ Bd env s0 X (wM u (mAllF u.2.2 i_9)) s x.1 x.2.1 ∧ lv_has x.2.2 5 [(0, .ref (a0)), (1, .int (nI (j_6))), (2, .int (nI (i_9))), (3, .int (nI (1))), (4, .int (nI (i_16)))]) (N := gN (mAllF u.2.2 i_9) 72 0 0) ?_ 0 (_, _, ls) (Nat.zero_le _) ⟨(fun q h => absurd h (Nat.not_lt_zero q)), hB, lv_sub hl [1, 2, 3, 4, 0] rfl⟩
      rintro i_16 ⟨H, locs, ls⟩ hi_17 ⟨hv_18, hB, hl⟩ ih30
      replace hB : Bd env s0 X (wM u (mAllF u.2.2 i_9)) s H locs := hB
      replace hl : lv_has ls 5 [(0, .ref (a0)), (1, .int (nI (j_6))), (2, .int (nI (i_9))), (3, .int (nI (1))), (4, .int (nI (i_16)))] := hl
      show W p l e _ s m _ below meth c H locs _ _ _ (F0 m 30 ls [])
      have := hNm_13 72 0 0
      have := hV_12.nms
      refine lv_iload hx hb dX5_all_30 (lv_at hl 4 rfl) ?_
      refine lv_aload_n hx hb dX5_all_32 rfl (lv_at hl 0 rfl) ?_
      refine w_get (v := .int (nI (gN (mAllF u.2.2 i_9) 72 (0) (0)))) (fk := 22) hF hB ha0 (cn_20 env (wM u (mAllF u.2.2 i_9)) (0)) rfl in_X5 (by decide) tw_3_117 rfl rfl dX5_all_33 ?_
      refine w_icge_n (tgt := 54) (by omega) (by have := hNm_13 72 (0) (0); omega) hx hb dX5_all_36 (by decide) (fun c_19 => ?_) (fun c_19 => ?_)
      · refine lv_iload hx hb dX5_all_54 (lv_at hl 4 rfl) ?_
        refine lv_aload_n hx hb dX5_all_56 rfl (lv_at hl 0 rfl) ?_
        refine w_get (v := .int (nI (gN (mAllF u.2.2 i_9) 72 (0) (0)))) (fk := 22) hF hB ha0 (cn_20 env (wM u (mAllF u.2.2 i_9)) (0)) rfl in_X5 (by decide) tw_3_117 rfl rfl dX5_all_57 ?_
        refine w_icge_n (tgt := 67) (by omega) (by have := hNm_13 72 (0) (0); omega) hx hb dX5_all_60 (by decide) (fun c_20 => ?_) (fun c_20 => ?_)
        · refine lv_iconst (v := nI 0) hx hb dX5_all_67 (by decide) ?_
          refine lv_istore_n (lv' := [(3, .int (nI (0))), (0, .ref (a0)), (1, .int (nI (j_6))), (2, .int (nI (i_9))), (4, .int (nI (i_16)))]) hx hb dX5_all_68 rfl hl (by decide) rfl (fun ls hl => ?_)
          refine lv_iload_n hx hb dX5_all_69 rfl (lv_at hl 0 rfl) ?_
          refine w_ifeq_n (tgt := 83) (by decide) hx hb dX5_all_70 (by decide) (fun _ => ?_) (fun c => absurd rfl c)
          refine lv_goto (tgt := 18) hx hb dX5_all_83 (by decide) ?_
          refine lv_iload_n hx hb dX5_all_18 rfl (lv_at hl 0 rfl) ?_
          refine w_ifeq_n (tgt := 86) (by decide) hx hb dX5_all_19 (by decide) (fun _ => ?_) (fun c => absurd rfl c)
          refine lv_iload_n hx hb dX5_all_86 rfl (lv_at hl 3 rfl) ?_
          have sk_21 := mAll_stuck (m := u.2.2) (d := i_9) (firstN_none (fun q hq => hv_18 q (by omega))) (j_6 - i_9)
          rw [show i_9 + (j_6 - i_9) = j_6 by omega, hv_11.1] at sk_21
          exact w_iret (v := nI i_9) hF hr hlocks hB (⟨by simp only [mall, hj_7]; rw [sk_21.1], by simp only [mall, hj_7]; rw [sk_21.2]⟩) dX5_all_87
        · omega
      · refine lv_aload_n hx hb dX5_all_39 rfl (lv_at hl 0 rfl) ?_
        refine lv_iload hx hb dX5_all_40 (lv_at hl 4 rfl) ?_
        refine w_ci (r_V (As := [.int (nI (i_16))]) (rest := []) hF hB (c_X5_canCome l env s0 X (wM u (mAllF u.2.2 i_9)) (a0) (0) (ha0) (i_16) hM hV_12 hNm_13 (by have := hV_12.nms; show _ < 2400; omega)) cv_X5_canCome tw_4_50 ⟨rfl, rfl, by decide, by decide⟩ (hB.recv ha0 (cn_20 env (wM u (mAllF u.2.2 i_9)) (0)) rfl) rfl hl.1 rfl (lv_room (by decide)) dX5_all_42 ⟨Nat.le_of_ble_eq_true rfl, Nat.le_of_ble_eq_true rfl⟩) hB (fun r_22 u_24 H locs hq_23 hB => ?_)
        obtain ⟨rfl, rfl⟩ := hq_23
        show W p l e _ s m _ below meth c H locs _ _ _ (F0 m _ ls [.int (b2i (mCanCome (mAllF u.2.2 i_9) (i_16)))])
        refine w_ifne_b (tgt := 54) hx hb dX5_all_45 (by decide) (fun c_25 => ?_) (fun c_25 => ?_)
        · refine lv_iload hx hb dX5_all_54 (lv_at hl 4 rfl) ?_
          refine lv_aload_n hx hb dX5_all_56 rfl (lv_at hl 0 rfl) ?_
          refine w_get (v := .int (nI (gN (mAllF u.2.2 i_9) 72 (0) (0)))) (fk := 22) hF hB ha0 (cn_20 env (wM u (mAllF u.2.2 i_9)) (0)) rfl in_X5 (by decide) tw_3_117 rfl rfl dX5_all_57 ?_
          refine w_icge_n (tgt := 67) (by omega) (by have := hNm_13 72 (0) (0); omega) hx hb dX5_all_60 (by decide) (fun c_26 => ?_) (fun c_26 => ?_)
          · omega
          · refine lv_iconst (v := nI 1) hx hb dX5_all_63 (by decide) ?_
            refine lv_goto (tgt := 68) hx hb dX5_all_64 (by decide) ?_
            refine lv_istore_n (lv' := [(3, .int (nI (1))), (0, .ref (a0)), (1, .int (nI (j_6))), (2, .int (nI (i_9))), (4, .int (nI (i_16)))]) hx hb dX5_all_68 rfl hl (by decide) rfl (fun ls hl => ?_)
            refine lv_iload_n hx hb dX5_all_69 rfl (lv_at hl 0 rfl) ?_
            refine w_ifeq_n (tgt := 83) (by decide) hx hb dX5_all_70 (by decide) (fun c => absurd c (by decide)) (fun _ => ?_)
            refine lv_aload_n hx hb dX5_all_73 rfl (lv_at hl 1 rfl) ?_
            refine lv_iload hx hb dX5_all_74 (lv_at hl 4 rfl) ?_
            refine w_ci (r_V (As := [.int (nI (i_16))]) (rest := []) hF hB (c_X5_comesNow l env s0 X (wM u (mAllF u.2.2 i_9)) (a0) (0) (ha0) (i_16) hM hV_12 hNm_13 c_19 (hPs _ _ hv_11.2.1 hv_11.2.2.1 hv_11.2.2.2 c_19 c_25).1) cv_X5_comesNow tw_4_54 ⟨rfl, rfl, by decide, by decide⟩ (hB.recv ha0 (cn_20 env (wM u (mAllF u.2.2 i_9)) (0)) rfl) rfl hl.1 rfl (lv_room (by decide)) dX5_all_76 ⟨Nat.le_of_ble_eq_true rfl, Nat.le_of_ble_eq_true rfl⟩) hB (fun r_27 u_29 H locs hq_28 hB => ?_)
            obtain ⟨rfl, rfl⟩ := hq_28
            replace hB : Bd env s0 X (wM u (mComesNow ((mAllF u.2.2 i_9)) (i_16))) s H locs := hB
            have hV_30 : MV (mComesNow ((mAllF u.2.2 i_9)) (i_16)) := mComesNow_V hV_12 (hPs _ _ hv_11.2.1 hv_11.2.2.1 hv_11.2.2.2 c_19 c_25).1
            have hNm_31 : Nb (mComesNow ((mAllF u.2.2 i_9)) (i_16)) := mComesNow_Nb hV_12 hNm_13 (hPs _ _ hv_11.2.1 hv_11.2.2.1 hv_11.2.2.2 c_19 c_25).1
            refine lv_pop hx hb dX5_all_79 rfl ?_
            refine lv_iinc (v := nI (i_9 + 1)) (lv' := [(2, .int (nI (i_9 + 1))), (3, .int (nI (1))), (0, .ref (a0)), (1, .int (nI (j_6))), (4, .int (nI (i_16)))]) hx hb dX5_all_80 hl (k := 3) rfl (nI_add _ _) (by decide) rfl (fun ls hl => ?_)
            refine lv_goto (tgt := 18) hx hb dX5_all_83 (by decide) ?_
            have em_32 : (mAllF u.2.2 (i_9 + 1)) = (mComesNow ((mAllF u.2.2 i_9)) (i_16)) := by simp [mAllF, mFirst, (firstN_some c_25 hv_18 c_19)]
            exact ih18 (H, locs, ls) (by omega) ⟨⟨by simp [mAllC, mFirst, (firstN_some c_25 hv_18 c_19), hv_11.1], (hPs _ _ hv_11.2.1 hv_11.2.2.1 hv_11.2.2.2 c_19 c_25).2 |> fun z => by rw [show mAllF u.2.2 (i_9 + 1) = mComesNow (mAllF u.2.2 i_9) i_16 from by simp [mAllF, mFirst, (firstN_some c_25 hv_18 c_19)]]; exact z, by rw [show mAllF u.2.2 (i_9 + 1) = mComesNow (mAllF u.2.2 i_9) i_16 from by simp [mAllF, mFirst, (firstN_some c_25 hv_18 c_19)]]; exact hV_30, by rw [show mAllF u.2.2 (i_9 + 1) = mComesNow (mAllF u.2.2 i_9) i_16 from by simp [mAllF, mFirst, (firstN_some c_25 hv_18 c_19)]]; exact hNm_31⟩, (by rw [em_32]; exact hB), by exact lv_sub hl [2, 3, 0, 1] rfl⟩
        · refine lv_iinc (v := nI (i_16 + 1)) (lv' := [(4, .int (nI (i_16 + 1))), (0, .ref (a0)), (1, .int (nI (j_6))), (2, .int (nI (i_9))), (3, .int (nI (1)))]) hx hb dX5_all_48 hl (k := 4) rfl (nI_add _ _) (by decide) rfl (fun ls hl => ?_)
          refine lv_goto (tgt := 30) hx hb dX5_all_51 (by decide) ?_
          exact ih30 (H, locs, ls) (by omega) ⟨lt_st hv_18 c_25, hB, by exact lv_sub hl [1, 2, 3, 4, 0] rfl⟩
  · have hi_33 := (in_500 v1).symm.trans c_4
    have hj_34 := Option.isSome_eq_false_iff.mp hi_33
    rw [Option.isNone_iff_eq_none] at hj_34
    refine lv_iconst (v := -1) hx hb dX5_all_12 (by decide) ?_
    exact w_iret (v := -1) hF hr hlocks hB (⟨by first | (simp [mall, hj_34]; done) | (simp [mall, hj_34]; rfl) | (simp [mall, hj_34] <;> omega), by first | (simp [mall, hj_34]; done) | (simp [mall, hj_34]; rfl) | (simp [mall, hj_34] <;> omega)⟩) dX5_all_13

set_option maxHeartbeats 4000000 in
set_option maxRecDepth 100000 in
theorem c_X5_writesAt (l : Launch) (env : Ev) (s0 : Nat) (X : va_W) (u : St) (a0 : Nat) (_xa0 : Nat) (ha0 : At u 20 (0) a0) (t : Nat) (w : Nat) (hM : MI u) (hV : MV u.2.2) (hNm : Nb u.2.2) (ht : t < 150) (hw : w < 4) : Met l yX5_writesAt [Cond.code yX5_writesAt cX5_writesAt 5 (some .boolean)] { frames := 0, cells := 0, slots := 0, locals := 0 } (va_Pc [.ref (a0), .int (nI (t)), .int (nI (w))] (Pr env s0 X u)) (va_Qi (fun r u' => u = u' ∧ r = b2i (mWritesAt u.2.2 t w)) (Po env s0 X) (fun q => s0 ≤ q)) 0 0 (fun q => s0 ≤ q) := by
  refine Met.ofW (cc := cX5_writesAt) (maxL := 5) (ret := (some .boolean)) (by decide) rfl ?_
  intro p e s m args below meth c s₁ B hml hv
  obtain ⟨rfl, hv⟩ := hv
  have hx := B.exec
  have hb := B.bytes
  have hr := B.returns
  have hts : ∀ ww ∈ TT, ww.before #[.ref (a0), .int (nI (t)), .int (nI (w))] s = true := fun ww hw => hv.2.1 ww hw _
  have hown : s.vm.findClass RX5 = some m.cls := findClass_of_methodNamed B.named
  have hlocks := B.notSynchronized
  have hF : CallFix p m c cX5_writesAt 5 s #[.ref (a0), .int (nI (t)), .int (nI (w))] TT RX5 := ⟨hx, hb, hml, hown, hts⟩
  have hB := Bd.entry hv
  have hl := lv_entry ([.ref (a0), .int (nI (t)), .int (nI (w))]) (n := 5) (Nat.le_of_ble_eq_true rfl)
  rw [lg_entry_eq]
  generalize (lg_sl ([.ref (a0), .int (nI (t)), .int (nI (w))]) ++ List.replicate (5 - (lg_sl ([.ref (a0), .int (nI (t)), .int (nI (w))])).length) Slot.unset).toArray = ls at hl ⊢
  have hl : lv_has ls 5 [(0, .ref (a0)), (1, .int (nI (t))), (2, .int (nI (w)))] := hl
  refine lv_iconst (v := nI 0) hx hb dX5_writesAt_0 (by decide) ?_
  refine lv_istore_n (lv' := [(3, .int (nI (0))), (0, .ref (a0)), (1, .int (nI (t))), (2, .int (nI (w)))]) hx hb dX5_writesAt_1 rfl hl (by decide) rfl (fun ls hl => ?_)
  refine lv_iconst (v := nI 0) hx hb dX5_writesAt_2 (by decide) ?_
  refine lv_istore (lv' := [(4, .int (nI (0))), (3, .int (nI (0))), (0, .ref (a0)), (1, .int (nI (t))), (2, .int (nI (w)))]) hx hb dX5_writesAt_3 hl (by decide) rfl (fun ls hl => ?_)
  have ea_2 : anyN (mWQ u.2.2 t w) (0) = false := by simp [allN_0, anyN_0, sumL_0, mWQ] <;> omega
  refine wloopH (σ := Heap × List Loc × Array Slot) (G := fun x => W p l e _ s m _ below meth c x.1 x.2.1 _ _ _ (F0 m 5 x.2.2 [])) (P := fun i_1 x => (True) ∧ Bd env s0 X u s x.1 x.2.1 ∧ lv_has x.2.2 5 [(0, .ref (a0)), (1, .int (nI (t))), (2, .int (nI (w))), (3, .int (b2i (anyN (mWQ u.2.2 t w) (i_1)))), (4, .int (nI (i_1)))]) (N := gN u.2.2 52 0 0) ?_ 0 (_, _, ls) (Nat.zero_le _) ⟨trivial, hB, by show lv_has ls 5 [(0, .ref (a0)), (1, .int (nI (t))), (2, .int (nI (w))), (3, .int (b2i (anyN (mWQ u.2.2 t w) (0)))), (4, .int (nI (0)))]; rw [ea_2]; exact lv_sub hl [2, 3, 4, 1, 0] rfl⟩
  rintro i_1 ⟨H, locs, ls⟩ hi_3 ⟨hv_4, hB, hl⟩ ih5
  replace hB : Bd env s0 X u s H locs := hB
  replace hl : lv_has ls 5 [(0, .ref (a0)), (1, .int (nI (t))), (2, .int (nI (w))), (3, .int (b2i (anyN (mWQ u.2.2 t w) (i_1)))), (4, .int (nI (i_1)))] := hl
  show W p l e _ s m _ below meth c H locs _ _ _ (F0 m 5 ls [])
  have := hNm 52 0 0
  have := hV.nth
  refine lv_iload hx hb dX5_writesAt_5 (lv_at hl 4 rfl) ?_
  refine lv_aload_n hx hb dX5_writesAt_7 rfl (lv_at hl 0 rfl) ?_
  refine w_get (v := .int (nI (gN u.2.2 52 (0) (0)))) (fk := 2) hF hB ha0 (cn_20 env u (0)) rfl in_X5 (by decide) tw_3_97 rfl rfl dX5_writesAt_8 ?_
  refine w_icge_n (tgt := 56) (by omega) (by have := hNm 52 (0) (0); omega) hx hb dX5_writesAt_11 (by decide) (fun c_5 => ?_) (fun c_5 => ?_)
  · refine lv_iload_n hx hb dX5_writesAt_56 rfl (lv_at hl 3 rfl) ?_
    exact w_zret (v := b2i (anyN (mWQ u.2.2 t w) (i_1))) hF hr (b2i_nar _) hlocks hB (⟨rfl, by rw [show i_1 = gN u.2.2 52 0 0 by omega]; rfl⟩) dX5_writesAt_57
  · refine lv_iload_n hx hb dX5_writesAt_14 rfl (lv_at hl 3 rfl) ?_
    refine w_ifne_b (tgt := 44) hx hb dX5_writesAt_15 (by decide) (fun c_6 => ?_) (fun c_6 => ?_)
    · refine lv_iconst (v := nI 1) hx hb dX5_writesAt_44 (by decide) ?_
      refine lv_goto (tgt := 49) hx hb dX5_writesAt_45 (by decide) ?_
      refine lv_istore_n (lv' := [(3, .int (nI (1))), (0, .ref (a0)), (1, .int (nI (t))), (2, .int (nI (w))), (4, .int (nI (i_1)))]) hx hb dX5_writesAt_49 rfl hl (by decide) rfl (fun ls hl => ?_)
      refine lv_iinc (v := nI (i_1 + 1)) (lv' := [(4, .int (nI (i_1 + 1))), (3, .int (nI (1))), (0, .ref (a0)), (1, .int (nI (t))), (2, .int (nI (w)))]) hx hb dX5_writesAt_50 hl (k := 4) rfl (nI_add _ _) (by decide) rfl (fun ls hl => ?_)
      refine lv_goto (tgt := 5) hx hb dX5_writesAt_53 (by decide) ?_
      have ea_7 : anyN (mWQ u.2.2 t w) (i_1 + 1) = true := by first | (simp [allN_s, anyN_s, cntN_s, sumL_s, Int64.add_assoc, mWQ, c_5, c_6] <;> omega) | grind [allN_s, anyN_s, cntN_s, sumL_s, Int64.add_assoc, mWQ]
      exact ih5 (H, locs, ls) (by omega) ⟨trivial, hB, by show lv_has ls 5 [(0, .ref (a0)), (1, .int (nI (t))), (2, .int (nI (w))), (3, .int (b2i (anyN (mWQ u.2.2 t w) (i_1 + 1)))), (4, .int (nI (i_1 + 1)))]; rw [ea_7]; exact lv_sub hl [2, 3, 4, 1, 0] rfl⟩
    · refine lv_aload_n hx hb dX5_writesAt_18 rfl (lv_at hl 0 rfl) ?_
      refine w_get (v := .ref (sA u 35 0)) (fk := 14) hF hB ha0 (cn_20 env u (0)) rfl in_X5 (by decide) tw_3_109 rfl rfl dX5_writesAt_19 ?_
      refine lv_bipush (v := nI 12) hx hb dX5_writesAt_22 (by decide) ?_
      refine lv_iload_n hx hb dX5_writesAt_24 rfl (lv_at hl 1 rfl) ?_
      refine w_imul_n hx hb dX5_writesAt_25 ?_
      refine lv_iload hx hb dX5_writesAt_26 (lv_at hl 4 rfl) ?_
      refine w_iadd_n hx hb dX5_writesAt_28 ?_
      refine w_zald (v := .int (b2i (gB u.2.2 64 (0) ((12 * t) + i_1)))) hF hB ⟨hM 35 (by decide), rfl⟩ (cn_35 env u (0)) (by omega) rfl (by decide) dX5_writesAt_29 ?_
      refine w_ifeq_b (tgt := 48) hx hb dX5_writesAt_30 (by decide) (fun c_8 => ?_) (fun c_8 => ?_)
      · refine lv_iconst (v := nI 0) hx hb dX5_writesAt_48 (by decide) ?_
        refine lv_istore_n (lv' := [(3, .int (nI (0))), (0, .ref (a0)), (1, .int (nI (t))), (2, .int (nI (w))), (4, .int (nI (i_1)))]) hx hb dX5_writesAt_49 rfl hl (by decide) rfl (fun ls hl => ?_)
        refine lv_iinc (v := nI (i_1 + 1)) (lv' := [(4, .int (nI (i_1 + 1))), (3, .int (nI (0))), (0, .ref (a0)), (1, .int (nI (t))), (2, .int (nI (w)))]) hx hb dX5_writesAt_50 hl (k := 4) rfl (nI_add _ _) (by decide) rfl (fun ls hl => ?_)
        refine lv_goto (tgt := 5) hx hb dX5_writesAt_53 (by decide) ?_
        have ea_9 : anyN (mWQ u.2.2 t w) (i_1 + 1) = false := by first | (simp [allN_s, anyN_s, cntN_s, sumL_s, Int64.add_assoc, mWQ, c_5, c_6, c_8] <;> omega) | grind [allN_s, anyN_s, cntN_s, sumL_s, Int64.add_assoc, mWQ]
        exact ih5 (H, locs, ls) (by omega) ⟨trivial, hB, by show lv_has ls 5 [(0, .ref (a0)), (1, .int (nI (t))), (2, .int (nI (w))), (3, .int (b2i (anyN (mWQ u.2.2 t w) (i_1 + 1)))), (4, .int (nI (i_1 + 1)))]; rw [ea_9]; exact lv_sub hl [2, 3, 4, 1, 0] rfl⟩
      · refine lv_aload_n hx hb dX5_writesAt_33 rfl (lv_at hl 0 rfl) ?_
        refine w_get (v := .ref (sA u 24 0)) (fk := 3) hF hB ha0 (cn_20 env u (0)) rfl in_X5 (by decide) tw_3_98 rfl rfl dX5_writesAt_34 ?_
        refine lv_iload hx hb dX5_writesAt_37 (lv_at hl 4 rfl) ?_
        refine w_iald (v := .int (nI (gN u.2.2 53 (0) (i_1)))) hF hB ⟨hM 24 (by decide), rfl⟩ (cn_24 env u (0)) (by omega) rfl (by decide) dX5_writesAt_39 ?_
        refine lv_iload_n hx hb dX5_writesAt_40 rfl (lv_at hl 2 rfl) ?_
        refine w_icne_n (tgt := 48) (by have := hNm 53 (0) (i_1); omega) (by omega) hx hb dX5_writesAt_41 (by decide) (fun c_10 => ?_) (fun c_10 => ?_)
        · refine lv_iconst (v := nI 0) hx hb dX5_writesAt_48 (by decide) ?_
          refine lv_istore_n (lv' := [(3, .int (nI (0))), (0, .ref (a0)), (1, .int (nI (t))), (2, .int (nI (w))), (4, .int (nI (i_1)))]) hx hb dX5_writesAt_49 rfl hl (by decide) rfl (fun ls hl => ?_)
          refine lv_iinc (v := nI (i_1 + 1)) (lv' := [(4, .int (nI (i_1 + 1))), (3, .int (nI (0))), (0, .ref (a0)), (1, .int (nI (t))), (2, .int (nI (w)))]) hx hb dX5_writesAt_50 hl (k := 4) rfl (nI_add _ _) (by decide) rfl (fun ls hl => ?_)
          refine lv_goto (tgt := 5) hx hb dX5_writesAt_53 (by decide) ?_
          have ea_11 : anyN (mWQ u.2.2 t w) (i_1 + 1) = false := by first | (simp [allN_s, anyN_s, cntN_s, sumL_s, Int64.add_assoc, mWQ, c_5, c_6, c_8, c_10] <;> omega) | grind [allN_s, anyN_s, cntN_s, sumL_s, Int64.add_assoc, mWQ]
          exact ih5 (H, locs, ls) (by omega) ⟨trivial, hB, by show lv_has ls 5 [(0, .ref (a0)), (1, .int (nI (t))), (2, .int (nI (w))), (3, .int (b2i (anyN (mWQ u.2.2 t w) (i_1 + 1)))), (4, .int (nI (i_1 + 1)))]; rw [ea_11]; exact lv_sub hl [2, 3, 4, 1, 0] rfl⟩
        · refine lv_iconst (v := nI 1) hx hb dX5_writesAt_44 (by decide) ?_
          refine lv_goto (tgt := 49) hx hb dX5_writesAt_45 (by decide) ?_
          refine lv_istore_n (lv' := [(3, .int (nI (1))), (0, .ref (a0)), (1, .int (nI (t))), (2, .int (nI (w))), (4, .int (nI (i_1)))]) hx hb dX5_writesAt_49 rfl hl (by decide) rfl (fun ls hl => ?_)
          refine lv_iinc (v := nI (i_1 + 1)) (lv' := [(4, .int (nI (i_1 + 1))), (3, .int (nI (1))), (0, .ref (a0)), (1, .int (nI (t))), (2, .int (nI (w)))]) hx hb dX5_writesAt_50 hl (k := 4) rfl (nI_add _ _) (by decide) rfl (fun ls hl => ?_)
          refine lv_goto (tgt := 5) hx hb dX5_writesAt_53 (by decide) ?_
          have ea_12 : anyN (mWQ u.2.2 t w) (i_1 + 1) = true := by first | (simp [allN_s, anyN_s, cntN_s, sumL_s, Int64.add_assoc, mWQ, c_5, c_6, c_8, c_10] <;> omega) | grind [allN_s, anyN_s, cntN_s, sumL_s, Int64.add_assoc, mWQ]
          exact ih5 (H, locs, ls) (by omega) ⟨trivial, hB, by show lv_has ls 5 [(0, .ref (a0)), (1, .int (nI (t))), (2, .int (nI (w))), (3, .int (b2i (anyN (mWQ u.2.2 t w) (i_1 + 1)))), (4, .int (nI (i_1 + 1)))]; rw [ea_12]; exact lv_sub hl [2, 3, 4, 1, 0] rfl⟩
set_option maxHeartbeats 4000000 in
set_option maxRecDepth 100000 in
theorem c_X5_canCome (l : Launch) (env : Ev) (s0 : Nat) (X : va_W) (u : St) (a0 : Nat) (_xa0 : Nat) (ha0 : At u 20 (0) a0) (i : Nat) (hM : MI u) (hV : MV u.2.2) (hNm : Nb u.2.2) (hi : i < 2400) : Met l yX5_canCome [Cond.code yX5_canCome cX5_canCome 6 (some .boolean)] { frames := 0, cells := 0, slots := 0, locals := 0 } (va_Pc [.ref (a0), .int (nI (i))] (Pr env s0 X u)) (va_Qi (fun r u' => u = u' ∧ r = b2i (mCanCome u.2.2 i)) (Po env s0 X) (fun q => s0 ≤ q)) 0 0 (fun q => s0 ≤ q) := by
  refine Met.ofW (cc := cX5_canCome) (maxL := 6) (ret := (some .boolean)) (by decide) rfl ?_
  intro p e s m args below meth c s₁ B hml hv
  obtain ⟨rfl, hv⟩ := hv
  have hx := B.exec
  have hb := B.bytes
  have hr := B.returns
  have hts : ∀ ww ∈ TT, ww.before #[.ref (a0), .int (nI (i))] s = true := fun ww hw => hv.2.1 ww hw _
  have hown : s.vm.findClass RX5 = some m.cls := findClass_of_methodNamed B.named
  have hlocks := B.notSynchronized
  have hF : CallFix p m c cX5_canCome 6 s #[.ref (a0), .int (nI (i))] TT RX5 := ⟨hx, hb, hml, hown, hts⟩
  have hB := Bd.entry hv
  have hl := lv_entry ([.ref (a0), .int (nI (i))]) (n := 6) (Nat.le_of_ble_eq_true rfl)
  rw [lg_entry_eq]
  generalize (lg_sl ([.ref (a0), .int (nI (i))]) ++ List.replicate (6 - (lg_sl ([.ref (a0), .int (nI (i))])).length) Slot.unset).toArray = ls at hl ⊢
  have hl : lv_has ls 6 [(0, .ref (a0)), (1, .int (nI (i)))] := hl
  refine lv_aload_n hx hb dX5_canCome_0 rfl (lv_at hl 0 rfl) ?_
  refine w_get (v := .ref (sA u 44 0)) (fk := 23) hF hB ha0 (cn_20 env u (0)) rfl in_X5 (by decide) tw_3_118 rfl rfl dX5_canCome_1 ?_
  refine lv_iload_n hx hb dX5_canCome_4 rfl (lv_at hl 1 rfl) ?_
  refine w_iald (v := .int (nI (gN u.2.2 73 (0) (i)))) hF hB ⟨hM 44 (by decide), rfl⟩ (cn_44 env u (0)) (by omega) rfl (by decide) dX5_canCome_5 ?_
  refine lv_iconst (v := nI 4) hx hb dX5_canCome_6 (by decide) ?_
  refine w_iceq_n (tgt := 12) (by have := hNm 73 (0) (i); omega) (by decide) hx hb dX5_canCome_7 (by decide) (fun c_1 => ?_) (fun c_1 => ?_)
  · refine lv_aload_n hx hb dX5_canCome_12 rfl (lv_at hl 0 rfl) ?_
    refine w_get (v := .ref (sA u 45 0)) (fk := 24) hF hB ha0 (cn_20 env u (0)) rfl in_X5 (by decide) tw_3_119 rfl rfl dX5_canCome_13 ?_
    refine lv_iload_n hx hb dX5_canCome_16 rfl (lv_at hl 1 rfl) ?_
    refine w_iald (v := .int (nI (gN u.2.2 74 (0) (i)))) hF hB ⟨hM 45 (by decide), rfl⟩ (cn_45 env u (0)) (by omega) rfl (by decide) dX5_canCome_17 ?_
    refine lv_istore_n (lv' := [(2, .int (nI (gN u.2.2 74 (0) (i)))), (0, .ref (a0)), (1, .int (nI (i)))]) hx hb dX5_canCome_18 rfl hl (by decide) rfl (fun ls hl => ?_)
    refine lv_aload_n hx hb dX5_canCome_19 rfl (lv_at hl 1 rfl) ?_
    refine w_get (v := .ref (sA u 47 0)) (fk := 26) hF hB ha0 (cn_20 env u (0)) rfl in_X5 (by decide) tw_3_121 rfl rfl dX5_canCome_20 ?_
    refine lv_iload_n hx hb dX5_canCome_23 rfl (lv_at hl 2 rfl) ?_
    refine w_iald (v := .int (nI (gN u.2.2 76 (0) (i)))) hF hB ⟨hM 47 (by decide), rfl⟩ (cn_47 env u (0)) (by omega) rfl (by decide) dX5_canCome_24 ?_
    refine lv_istore_n (lv' := [(3, .int (nI (gN u.2.2 76 (0) (i)))), (2, .int (nI (gN u.2.2 74 (0) (i)))), (0, .ref (a0)), (1, .int (nI (i)))]) hx hb dX5_canCome_25 rfl hl (by decide) rfl (fun ls hl => ?_)
    refine lv_aload_n hx hb dX5_canCome_26 rfl (lv_at hl 2 rfl) ?_
    refine w_get (v := .ref (sA u 39 0)) (fk := 18) hF hB ha0 (cn_20 env u (0)) rfl in_X5 (by decide) tw_3_113 rfl rfl dX5_canCome_27 ?_
    refine lv_iconst (v := nI 4) hx hb dX5_canCome_30 (by decide) ?_
    refine lv_iload_n hx hb dX5_canCome_31 rfl (lv_at hl 1 rfl) ?_
    refine w_imul_n hx hb dX5_canCome_32 ?_
    refine lv_aload_n hx hb dX5_canCome_33 rfl (lv_at hl 2 rfl) ?_
    refine w_get (v := .ref (sA u 27 0)) (fk := 6) hF hB ha0 (cn_20 env u (0)) rfl in_X5 (by decide) tw_3_101 rfl rfl dX5_canCome_34 ?_
    refine lv_iload_n hx hb dX5_canCome_37 rfl (lv_at hl 0 rfl) ?_
    refine w_iald (v := .int (nI (gN u.2.2 56 (0) (gN u.2.2 76 (0) (i))))) hF hB ⟨hM 27 (by decide), rfl⟩ (cn_27 env u (0)) (by have := hV.of (i); omega) rfl (by decide) dX5_canCome_38 ?_
    refine w_iadd_n hx hb dX5_canCome_39 ?_
    refine w_iald (v := .int (nI (gN u.2.2 68 (0) ((4 * (gN u.2.2 74 (0) (i))) + (gN u.2.2 56 (0) (gN u.2.2 76 (0) (i))))))) hF hB ⟨hM 39 (by decide), rfl⟩ (cn_39 env u (0)) (by have := hV.to (i); have := hV.site (gN u.2.2 76 (0) (i)); have := hV.of (i); omega) rfl (by decide) dX5_canCome_40 ?_
    refine lv_aload_n hx hb dX5_canCome_41 rfl (lv_at hl 2 rfl) ?_
    refine w_get (v := .ref (sA u 30 0)) (fk := 9) hF hB ha0 (cn_20 env u (0)) rfl in_X5 (by decide) tw_3_104 rfl rfl dX5_canCome_42 ?_
    refine lv_iload_n hx hb dX5_canCome_45 rfl (lv_at hl 0 rfl) ?_
    refine w_iald (v := .int (nI (gN u.2.2 59 (0) (gN u.2.2 76 (0) (i))))) hF hB ⟨hM 30 (by decide), rfl⟩ (cn_30 env u (0)) (by have := hV.of (i); omega) rfl (by decide) dX5_canCome_46 ?_
    refine lv_iconst (v := nI 1) hx hb dX5_canCome_47 (by decide) ?_
    refine lv_isub hx hb dX5_canCome_48 ?_
    refine lv_icmp_ne (tgt := 56) hx hb dX5_canCome_49 (by decide) (fun c_2 => ?_) (fun c_2 => ?_)
    · have hc_3 := mt (nI_is_sub1 (hNm 68 0 _) (hNm 59 0 _)).mpr c_2
      refine lv_iconst (v := nI 0) hx hb dX5_canCome_56 (by decide) ?_
      refine lv_istore (lv' := [(4, .int (nI (0))), (3, .int (nI (gN u.2.2 76 (0) (i)))), (2, .int (nI (gN u.2.2 74 (0) (i)))), (0, .ref (a0)), (1, .int (nI (i)))]) hx hb dX5_canCome_57 hl (by decide) rfl (fun ls hl => ?_)
      refine lv_iconst (v := nI 0) hx hb dX5_canCome_59 (by decide) ?_
      refine lv_istore (lv' := [(5, .int (nI (0))), (4, .int (nI (0))), (3, .int (nI (gN u.2.2 76 (0) (i)))), (2, .int (nI (gN u.2.2 74 (0) (i)))), (0, .ref (a0)), (1, .int (nI (i)))]) hx hb dX5_canCome_60 hl (by decide) rfl (fun ls hl => ?_)
      have ea_5 : (decide (gN u.2.2 68 0 (4 * (gN u.2.2 74 0 i) + gN u.2.2 56 0 (gN u.2.2 76 0 i)) + 1 = gN u.2.2 59 0 (gN u.2.2 76 0 i)) && allN (mCanQ u.2.2 (gN u.2.2 74 0 i) (gN u.2.2 76 0 i)) (0)) = false := by simp [allN_0, anyN_0, sumL_0, mCanQ, c_1, hc_3] <;> omega
      refine wloopH (σ := Heap × List Loc × Array Slot) (G := fun x => W p l e _ s m _ below meth c x.1 x.2.1 _ _ _ (F0 m 62 x.2.2 [])) (P := fun i_4 x => (True) ∧ Bd env s0 X u s x.1 x.2.1 ∧ lv_has x.2.2 6 [(0, .ref (a0)), (1, .int (nI (i))), (2, .int (nI (gN u.2.2 74 (0) (i)))), (3, .int (nI (gN u.2.2 76 (0) (i)))), (4, .int (b2i ((decide (gN u.2.2 68 0 (4 * (gN u.2.2 74 0 i) + gN u.2.2 56 0 (gN u.2.2 76 0 i)) + 1 = gN u.2.2 59 0 (gN u.2.2 76 0 i)) && allN (mCanQ u.2.2 (gN u.2.2 74 0 i) (gN u.2.2 76 0 i)) (i_4))))), (5, .int (nI (i_4)))]) (N := gN u.2.2 50 0 0) ?_ 0 (_, _, ls) (Nat.zero_le _) ⟨trivial, hB, by show lv_has ls 6 [(0, .ref (a0)), (1, .int (nI (i))), (2, .int (nI (gN u.2.2 74 (0) (i)))), (3, .int (nI (gN u.2.2 76 (0) (i)))), (4, .int (b2i ((decide (gN u.2.2 68 0 (4 * (gN u.2.2 74 0 i) + gN u.2.2 56 0 (gN u.2.2 76 0 i)) + 1 = gN u.2.2 59 0 (gN u.2.2 76 0 i)) && allN (mCanQ u.2.2 (gN u.2.2 74 0 i) (gN u.2.2 76 0 i)) (0))))), (5, .int (nI (0)))]; rw [ea_5]; exact lv_sub hl [4, 5, 3, 2, 1, 0] rfl⟩
      rintro i_4 ⟨H, locs, ls⟩ hi_6 ⟨hv_7, hB, hl⟩ ih62
      replace hB : Bd env s0 X u s H locs := hB
      replace hl : lv_has ls 6 [(0, .ref (a0)), (1, .int (nI (i))), (2, .int (nI (gN u.2.2 74 (0) (i)))), (3, .int (nI (gN u.2.2 76 (0) (i)))), (4, .int (b2i ((decide (gN u.2.2 68 0 (4 * (gN u.2.2 74 0 i) + gN u.2.2 56 0 (gN u.2.2 76 0 i)) + 1 = gN u.2.2 59 0 (gN u.2.2 76 0 i)) && allN (mCanQ u.2.2 (gN u.2.2 74 0 i) (gN u.2.2 76 0 i)) (i_4))))), (5, .int (nI (i_4)))] := hl
      show W p l e _ s m _ below meth c H locs _ _ _ (F0 m 62 ls [])
      have := hNm 50 0 0
      have := hV.nst
      refine lv_iload hx hb dX5_canCome_62 (lv_at hl 5 rfl) ?_
      refine lv_aload_n hx hb dX5_canCome_64 rfl (lv_at hl 0 rfl) ?_
      refine w_get (v := .int (nI (gN u.2.2 50 (0) (0)))) (fk := 0) hF hB ha0 (cn_20 env u (0)) rfl in_X5 (by decide) tw_3_95 rfl rfl dX5_canCome_65 ?_
      refine w_icge_n (tgt := 114) (by omega) (by have := hNm 50 (0) (0); omega) hx hb dX5_canCome_68 (by decide) (fun c_8 => ?_) (fun c_8 => ?_)
      · refine lv_iload hx hb dX5_canCome_114 (lv_at hl 4 rfl) ?_
        exact w_zret (v := b2i ((decide (gN u.2.2 68 0 (4 * (gN u.2.2 74 0 i) + gN u.2.2 56 0 (gN u.2.2 76 0 i)) + 1 = gN u.2.2 59 0 (gN u.2.2 76 0 i)) && allN (mCanQ u.2.2 (gN u.2.2 74 0 i) (gN u.2.2 76 0 i)) (i_4)))) hF hr (b2i_nar _) hlocks hB (⟨rfl, by rw [show i_4 = gN u.2.2 50 0 0 by omega]; simp [mCanCome, mCanC, c_1]⟩) dX5_canCome_116
      · refine lv_iload hx hb dX5_canCome_71 (lv_at hl 4 rfl) ?_
        refine w_ifeq_b (tgt := 105) hx hb dX5_canCome_73 (by decide) (fun c_9 => ?_) (fun c_9 => ?_)
        · refine lv_iconst (v := nI 0) hx hb dX5_canCome_105 (by decide) ?_
          refine lv_istore (lv' := [(4, .int (nI (0))), (0, .ref (a0)), (1, .int (nI (i))), (2, .int (nI (gN u.2.2 74 (0) (i)))), (3, .int (nI (gN u.2.2 76 (0) (i)))), (5, .int (nI (i_4)))]) hx hb dX5_canCome_106 hl (by decide) rfl (fun ls hl => ?_)
          refine lv_iinc (v := nI (i_4 + 1)) (lv' := [(5, .int (nI (i_4 + 1))), (4, .int (nI (0))), (0, .ref (a0)), (1, .int (nI (i))), (2, .int (nI (gN u.2.2 74 (0) (i)))), (3, .int (nI (gN u.2.2 76 (0) (i))))]) hx hb dX5_canCome_108 hl (k := 5) rfl (nI_add _ _) (by decide) rfl (fun ls hl => ?_)
          refine lv_goto (tgt := 62) hx hb dX5_canCome_111 (by decide) ?_
          have ea_10 : (decide (gN u.2.2 68 0 (4 * (gN u.2.2 74 0 i) + gN u.2.2 56 0 (gN u.2.2 76 0 i)) + 1 = gN u.2.2 59 0 (gN u.2.2 76 0 i)) && allN (mCanQ u.2.2 (gN u.2.2 74 0 i) (gN u.2.2 76 0 i)) (i_4 + 1)) = false := by first | (simp [allN_s, anyN_s, cntN_s, sumL_s, Int64.add_assoc, mCanQ, c_8, c_9] <;> omega) | grind [allN_s, anyN_s, cntN_s, sumL_s, Int64.add_assoc, mCanQ]
          exact ih62 (H, locs, ls) (by omega) ⟨trivial, hB, by show lv_has ls 6 [(0, .ref (a0)), (1, .int (nI (i))), (2, .int (nI (gN u.2.2 74 (0) (i)))), (3, .int (nI (gN u.2.2 76 (0) (i)))), (4, .int (b2i ((decide (gN u.2.2 68 0 (4 * (gN u.2.2 74 0 i) + gN u.2.2 56 0 (gN u.2.2 76 0 i)) + 1 = gN u.2.2 59 0 (gN u.2.2 76 0 i)) && allN (mCanQ u.2.2 (gN u.2.2 74 0 i) (gN u.2.2 76 0 i)) (i_4 + 1))))), (5, .int (nI (i_4 + 1)))]; rw [ea_10]; exact lv_sub hl [2, 3, 4, 5, 1, 0] rfl⟩
        · refine lv_aload_n hx hb dX5_canCome_76 rfl (lv_at hl 0 rfl) ?_
          refine w_get (v := .ref (sA u 39 0)) (fk := 18) hF hB ha0 (cn_20 env u (0)) rfl in_X5 (by decide) tw_3_113 rfl rfl dX5_canCome_77 ?_
          refine lv_iconst (v := nI 4) hx hb dX5_canCome_80 (by decide) ?_
          refine lv_iload_n hx hb dX5_canCome_81 rfl (lv_at hl 2 rfl) ?_
          refine w_imul_n hx hb dX5_canCome_82 ?_
          refine lv_iload hx hb dX5_canCome_83 (lv_at hl 5 rfl) ?_
          refine w_iadd_n hx hb dX5_canCome_85 ?_
          refine w_iald (v := .int (nI (gN u.2.2 68 (0) ((4 * (gN u.2.2 74 (0) (i))) + i_4)))) hF hB ⟨hM 39 (by decide), rfl⟩ (cn_39 env u (0)) (by have := hV.to (i); omega) rfl (by decide) dX5_canCome_86 ?_
          refine lv_aload_n hx hb dX5_canCome_87 rfl (lv_at hl 0 rfl) ?_
          refine w_get (v := .ref (sA u 29 0)) (fk := 8) hF hB ha0 (cn_20 env u (0)) rfl in_X5 (by decide) tw_3_103 rfl rfl dX5_canCome_88 ?_
          refine lv_iconst (v := nI 4) hx hb dX5_canCome_91 (by decide) ?_
          refine lv_iload_n hx hb dX5_canCome_92 rfl (lv_at hl 3 rfl) ?_
          refine w_imul_n hx hb dX5_canCome_93 ?_
          refine lv_iload hx hb dX5_canCome_94 (lv_at hl 5 rfl) ?_
          refine w_iadd_n hx hb dX5_canCome_96 ?_
          refine w_iald (v := .int (nI (gN u.2.2 58 (0) ((4 * (gN u.2.2 76 (0) (i))) + i_4)))) hF hB ⟨hM 29 (by decide), rfl⟩ (cn_29 env u (0)) (by have := hV.of (i); omega) rfl (by decide) dX5_canCome_97 ?_
          refine w_iclt_n (tgt := 105) (by have := hNm 68 (0) ((4 * (gN u.2.2 74 (0) (i))) + i_4); have := hNm 74 (0) (i); omega) (by have := hNm 58 (0) ((4 * (gN u.2.2 76 (0) (i))) + i_4); have := hNm 76 (0) (i); omega) hx hb dX5_canCome_98 (by decide) (fun c_11 => ?_) (fun c_11 => ?_)
          · refine lv_iconst (v := nI 0) hx hb dX5_canCome_105 (by decide) ?_
            refine lv_istore (lv' := [(4, .int (nI (0))), (0, .ref (a0)), (1, .int (nI (i))), (2, .int (nI (gN u.2.2 74 (0) (i)))), (3, .int (nI (gN u.2.2 76 (0) (i)))), (5, .int (nI (i_4)))]) hx hb dX5_canCome_106 hl (by decide) rfl (fun ls hl => ?_)
            refine lv_iinc (v := nI (i_4 + 1)) (lv' := [(5, .int (nI (i_4 + 1))), (4, .int (nI (0))), (0, .ref (a0)), (1, .int (nI (i))), (2, .int (nI (gN u.2.2 74 (0) (i)))), (3, .int (nI (gN u.2.2 76 (0) (i))))]) hx hb dX5_canCome_108 hl (k := 5) rfl (nI_add _ _) (by decide) rfl (fun ls hl => ?_)
            refine lv_goto (tgt := 62) hx hb dX5_canCome_111 (by decide) ?_
            have ea_12 : (decide (gN u.2.2 68 0 (4 * (gN u.2.2 74 0 i) + gN u.2.2 56 0 (gN u.2.2 76 0 i)) + 1 = gN u.2.2 59 0 (gN u.2.2 76 0 i)) && allN (mCanQ u.2.2 (gN u.2.2 74 0 i) (gN u.2.2 76 0 i)) (i_4 + 1)) = false := by first | (simp [allN_s, anyN_s, cntN_s, sumL_s, Int64.add_assoc, mCanQ, c_8, c_9, c_11] <;> omega) | grind [allN_s, anyN_s, cntN_s, sumL_s, Int64.add_assoc, mCanQ]
            exact ih62 (H, locs, ls) (by omega) ⟨trivial, hB, by show lv_has ls 6 [(0, .ref (a0)), (1, .int (nI (i))), (2, .int (nI (gN u.2.2 74 (0) (i)))), (3, .int (nI (gN u.2.2 76 (0) (i)))), (4, .int (b2i ((decide (gN u.2.2 68 0 (4 * (gN u.2.2 74 0 i) + gN u.2.2 56 0 (gN u.2.2 76 0 i)) + 1 = gN u.2.2 59 0 (gN u.2.2 76 0 i)) && allN (mCanQ u.2.2 (gN u.2.2 74 0 i) (gN u.2.2 76 0 i)) (i_4 + 1))))), (5, .int (nI (i_4 + 1)))]; rw [ea_12]; exact lv_sub hl [2, 3, 4, 5, 1, 0] rfl⟩
          · refine lv_iconst (v := nI 1) hx hb dX5_canCome_101 (by decide) ?_
            refine lv_goto (tgt := 106) hx hb dX5_canCome_102 (by decide) ?_
            refine lv_istore (lv' := [(4, .int (nI (1))), (0, .ref (a0)), (1, .int (nI (i))), (2, .int (nI (gN u.2.2 74 (0) (i)))), (3, .int (nI (gN u.2.2 76 (0) (i)))), (5, .int (nI (i_4)))]) hx hb dX5_canCome_106 hl (by decide) rfl (fun ls hl => ?_)
            refine lv_iinc (v := nI (i_4 + 1)) (lv' := [(5, .int (nI (i_4 + 1))), (4, .int (nI (1))), (0, .ref (a0)), (1, .int (nI (i))), (2, .int (nI (gN u.2.2 74 (0) (i)))), (3, .int (nI (gN u.2.2 76 (0) (i))))]) hx hb dX5_canCome_108 hl (k := 5) rfl (nI_add _ _) (by decide) rfl (fun ls hl => ?_)
            refine lv_goto (tgt := 62) hx hb dX5_canCome_111 (by decide) ?_
            have ea_13 : (decide (gN u.2.2 68 0 (4 * (gN u.2.2 74 0 i) + gN u.2.2 56 0 (gN u.2.2 76 0 i)) + 1 = gN u.2.2 59 0 (gN u.2.2 76 0 i)) && allN (mCanQ u.2.2 (gN u.2.2 74 0 i) (gN u.2.2 76 0 i)) (i_4 + 1)) = true := by first | (simp [allN_s, anyN_s, cntN_s, sumL_s, Int64.add_assoc, mCanQ, c_8, c_9, c_11] <;> omega) | grind [allN_s, anyN_s, cntN_s, sumL_s, Int64.add_assoc, mCanQ]
            exact ih62 (H, locs, ls) (by omega) ⟨trivial, hB, by show lv_has ls 6 [(0, .ref (a0)), (1, .int (nI (i))), (2, .int (nI (gN u.2.2 74 (0) (i)))), (3, .int (nI (gN u.2.2 76 (0) (i)))), (4, .int (b2i ((decide (gN u.2.2 68 0 (4 * (gN u.2.2 74 0 i) + gN u.2.2 56 0 (gN u.2.2 76 0 i)) + 1 = gN u.2.2 59 0 (gN u.2.2 76 0 i)) && allN (mCanQ u.2.2 (gN u.2.2 74 0 i) (gN u.2.2 76 0 i)) (i_4 + 1))))), (5, .int (nI (i_4 + 1)))]; rw [ea_13]; exact lv_sub hl [2, 3, 4, 5, 1, 0] rfl⟩
    · have hc_14 := (nI_is_sub1 (hNm 68 0 _) (hNm 59 0 _)).mp c_2
      refine lv_iconst (v := nI 1) hx hb dX5_canCome_52 (by decide) ?_
      refine lv_goto (tgt := 57) hx hb dX5_canCome_53 (by decide) ?_
      refine lv_istore (lv' := [(4, .int (nI (1))), (3, .int (nI (gN u.2.2 76 (0) (i)))), (2, .int (nI (gN u.2.2 74 (0) (i)))), (0, .ref (a0)), (1, .int (nI (i)))]) hx hb dX5_canCome_57 hl (by decide) rfl (fun ls hl => ?_)
      refine lv_iconst (v := nI 0) hx hb dX5_canCome_59 (by decide) ?_
      refine lv_istore (lv' := [(5, .int (nI (0))), (4, .int (nI (1))), (3, .int (nI (gN u.2.2 76 (0) (i)))), (2, .int (nI (gN u.2.2 74 (0) (i)))), (0, .ref (a0)), (1, .int (nI (i)))]) hx hb dX5_canCome_60 hl (by decide) rfl (fun ls hl => ?_)
      have ea_16 : (decide (gN u.2.2 68 0 (4 * (gN u.2.2 74 0 i) + gN u.2.2 56 0 (gN u.2.2 76 0 i)) + 1 = gN u.2.2 59 0 (gN u.2.2 76 0 i)) && allN (mCanQ u.2.2 (gN u.2.2 74 0 i) (gN u.2.2 76 0 i)) (0)) = true := by simp [allN_0, anyN_0, sumL_0, mCanQ, c_1, hc_14] <;> omega
      refine wloopH (σ := Heap × List Loc × Array Slot) (G := fun x => W p l e _ s m _ below meth c x.1 x.2.1 _ _ _ (F0 m 62 x.2.2 [])) (P := fun i_15 x => (True) ∧ Bd env s0 X u s x.1 x.2.1 ∧ lv_has x.2.2 6 [(0, .ref (a0)), (1, .int (nI (i))), (2, .int (nI (gN u.2.2 74 (0) (i)))), (3, .int (nI (gN u.2.2 76 (0) (i)))), (4, .int (b2i ((decide (gN u.2.2 68 0 (4 * (gN u.2.2 74 0 i) + gN u.2.2 56 0 (gN u.2.2 76 0 i)) + 1 = gN u.2.2 59 0 (gN u.2.2 76 0 i)) && allN (mCanQ u.2.2 (gN u.2.2 74 0 i) (gN u.2.2 76 0 i)) (i_15))))), (5, .int (nI (i_15)))]) (N := gN u.2.2 50 0 0) ?_ 0 (_, _, ls) (Nat.zero_le _) ⟨trivial, hB, by show lv_has ls 6 [(0, .ref (a0)), (1, .int (nI (i))), (2, .int (nI (gN u.2.2 74 (0) (i)))), (3, .int (nI (gN u.2.2 76 (0) (i)))), (4, .int (b2i ((decide (gN u.2.2 68 0 (4 * (gN u.2.2 74 0 i) + gN u.2.2 56 0 (gN u.2.2 76 0 i)) + 1 = gN u.2.2 59 0 (gN u.2.2 76 0 i)) && allN (mCanQ u.2.2 (gN u.2.2 74 0 i) (gN u.2.2 76 0 i)) (0))))), (5, .int (nI (0)))]; rw [ea_16]; exact lv_sub hl [4, 5, 3, 2, 1, 0] rfl⟩
      rintro i_15 ⟨H, locs, ls⟩ hi_17 ⟨hv_18, hB, hl⟩ ih62
      replace hB : Bd env s0 X u s H locs := hB
      replace hl : lv_has ls 6 [(0, .ref (a0)), (1, .int (nI (i))), (2, .int (nI (gN u.2.2 74 (0) (i)))), (3, .int (nI (gN u.2.2 76 (0) (i)))), (4, .int (b2i ((decide (gN u.2.2 68 0 (4 * (gN u.2.2 74 0 i) + gN u.2.2 56 0 (gN u.2.2 76 0 i)) + 1 = gN u.2.2 59 0 (gN u.2.2 76 0 i)) && allN (mCanQ u.2.2 (gN u.2.2 74 0 i) (gN u.2.2 76 0 i)) (i_15))))), (5, .int (nI (i_15)))] := hl
      show W p l e _ s m _ below meth c H locs _ _ _ (F0 m 62 ls [])
      have := hNm 50 0 0
      have := hV.nst
      refine lv_iload hx hb dX5_canCome_62 (lv_at hl 5 rfl) ?_
      refine lv_aload_n hx hb dX5_canCome_64 rfl (lv_at hl 0 rfl) ?_
      refine w_get (v := .int (nI (gN u.2.2 50 (0) (0)))) (fk := 0) hF hB ha0 (cn_20 env u (0)) rfl in_X5 (by decide) tw_3_95 rfl rfl dX5_canCome_65 ?_
      refine w_icge_n (tgt := 114) (by omega) (by have := hNm 50 (0) (0); omega) hx hb dX5_canCome_68 (by decide) (fun c_19 => ?_) (fun c_19 => ?_)
      · refine lv_iload hx hb dX5_canCome_114 (lv_at hl 4 rfl) ?_
        exact w_zret (v := b2i ((decide (gN u.2.2 68 0 (4 * (gN u.2.2 74 0 i) + gN u.2.2 56 0 (gN u.2.2 76 0 i)) + 1 = gN u.2.2 59 0 (gN u.2.2 76 0 i)) && allN (mCanQ u.2.2 (gN u.2.2 74 0 i) (gN u.2.2 76 0 i)) (i_15)))) hF hr (b2i_nar _) hlocks hB (⟨rfl, by rw [show i_15 = gN u.2.2 50 0 0 by omega]; simp [mCanCome, mCanC, c_1]⟩) dX5_canCome_116
      · refine lv_iload hx hb dX5_canCome_71 (lv_at hl 4 rfl) ?_
        refine w_ifeq_b (tgt := 105) hx hb dX5_canCome_73 (by decide) (fun c_20 => ?_) (fun c_20 => ?_)
        · refine lv_iconst (v := nI 0) hx hb dX5_canCome_105 (by decide) ?_
          refine lv_istore (lv' := [(4, .int (nI (0))), (0, .ref (a0)), (1, .int (nI (i))), (2, .int (nI (gN u.2.2 74 (0) (i)))), (3, .int (nI (gN u.2.2 76 (0) (i)))), (5, .int (nI (i_15)))]) hx hb dX5_canCome_106 hl (by decide) rfl (fun ls hl => ?_)
          refine lv_iinc (v := nI (i_15 + 1)) (lv' := [(5, .int (nI (i_15 + 1))), (4, .int (nI (0))), (0, .ref (a0)), (1, .int (nI (i))), (2, .int (nI (gN u.2.2 74 (0) (i)))), (3, .int (nI (gN u.2.2 76 (0) (i))))]) hx hb dX5_canCome_108 hl (k := 5) rfl (nI_add _ _) (by decide) rfl (fun ls hl => ?_)
          refine lv_goto (tgt := 62) hx hb dX5_canCome_111 (by decide) ?_
          have ea_21 : (decide (gN u.2.2 68 0 (4 * (gN u.2.2 74 0 i) + gN u.2.2 56 0 (gN u.2.2 76 0 i)) + 1 = gN u.2.2 59 0 (gN u.2.2 76 0 i)) && allN (mCanQ u.2.2 (gN u.2.2 74 0 i) (gN u.2.2 76 0 i)) (i_15 + 1)) = false := by first | (simp [allN_s, anyN_s, cntN_s, sumL_s, Int64.add_assoc, mCanQ, c_19, c_20] <;> omega) | grind [allN_s, anyN_s, cntN_s, sumL_s, Int64.add_assoc, mCanQ]
          exact ih62 (H, locs, ls) (by omega) ⟨trivial, hB, by show lv_has ls 6 [(0, .ref (a0)), (1, .int (nI (i))), (2, .int (nI (gN u.2.2 74 (0) (i)))), (3, .int (nI (gN u.2.2 76 (0) (i)))), (4, .int (b2i ((decide (gN u.2.2 68 0 (4 * (gN u.2.2 74 0 i) + gN u.2.2 56 0 (gN u.2.2 76 0 i)) + 1 = gN u.2.2 59 0 (gN u.2.2 76 0 i)) && allN (mCanQ u.2.2 (gN u.2.2 74 0 i) (gN u.2.2 76 0 i)) (i_15 + 1))))), (5, .int (nI (i_15 + 1)))]; rw [ea_21]; exact lv_sub hl [2, 3, 4, 5, 1, 0] rfl⟩
        · refine lv_aload_n hx hb dX5_canCome_76 rfl (lv_at hl 0 rfl) ?_
          refine w_get (v := .ref (sA u 39 0)) (fk := 18) hF hB ha0 (cn_20 env u (0)) rfl in_X5 (by decide) tw_3_113 rfl rfl dX5_canCome_77 ?_
          refine lv_iconst (v := nI 4) hx hb dX5_canCome_80 (by decide) ?_
          refine lv_iload_n hx hb dX5_canCome_81 rfl (lv_at hl 2 rfl) ?_
          refine w_imul_n hx hb dX5_canCome_82 ?_
          refine lv_iload hx hb dX5_canCome_83 (lv_at hl 5 rfl) ?_
          refine w_iadd_n hx hb dX5_canCome_85 ?_
          refine w_iald (v := .int (nI (gN u.2.2 68 (0) ((4 * (gN u.2.2 74 (0) (i))) + i_15)))) hF hB ⟨hM 39 (by decide), rfl⟩ (cn_39 env u (0)) (by have := hV.to (i); omega) rfl (by decide) dX5_canCome_86 ?_
          refine lv_aload_n hx hb dX5_canCome_87 rfl (lv_at hl 0 rfl) ?_
          refine w_get (v := .ref (sA u 29 0)) (fk := 8) hF hB ha0 (cn_20 env u (0)) rfl in_X5 (by decide) tw_3_103 rfl rfl dX5_canCome_88 ?_
          refine lv_iconst (v := nI 4) hx hb dX5_canCome_91 (by decide) ?_
          refine lv_iload_n hx hb dX5_canCome_92 rfl (lv_at hl 3 rfl) ?_
          refine w_imul_n hx hb dX5_canCome_93 ?_
          refine lv_iload hx hb dX5_canCome_94 (lv_at hl 5 rfl) ?_
          refine w_iadd_n hx hb dX5_canCome_96 ?_
          refine w_iald (v := .int (nI (gN u.2.2 58 (0) ((4 * (gN u.2.2 76 (0) (i))) + i_15)))) hF hB ⟨hM 29 (by decide), rfl⟩ (cn_29 env u (0)) (by have := hV.of (i); omega) rfl (by decide) dX5_canCome_97 ?_
          refine w_iclt_n (tgt := 105) (by have := hNm 68 (0) ((4 * (gN u.2.2 74 (0) (i))) + i_15); have := hNm 74 (0) (i); omega) (by have := hNm 58 (0) ((4 * (gN u.2.2 76 (0) (i))) + i_15); have := hNm 76 (0) (i); omega) hx hb dX5_canCome_98 (by decide) (fun c_22 => ?_) (fun c_22 => ?_)
          · refine lv_iconst (v := nI 0) hx hb dX5_canCome_105 (by decide) ?_
            refine lv_istore (lv' := [(4, .int (nI (0))), (0, .ref (a0)), (1, .int (nI (i))), (2, .int (nI (gN u.2.2 74 (0) (i)))), (3, .int (nI (gN u.2.2 76 (0) (i)))), (5, .int (nI (i_15)))]) hx hb dX5_canCome_106 hl (by decide) rfl (fun ls hl => ?_)
            refine lv_iinc (v := nI (i_15 + 1)) (lv' := [(5, .int (nI (i_15 + 1))), (4, .int (nI (0))), (0, .ref (a0)), (1, .int (nI (i))), (2, .int (nI (gN u.2.2 74 (0) (i)))), (3, .int (nI (gN u.2.2 76 (0) (i))))]) hx hb dX5_canCome_108 hl (k := 5) rfl (nI_add _ _) (by decide) rfl (fun ls hl => ?_)
            refine lv_goto (tgt := 62) hx hb dX5_canCome_111 (by decide) ?_
            have ea_23 : (decide (gN u.2.2 68 0 (4 * (gN u.2.2 74 0 i) + gN u.2.2 56 0 (gN u.2.2 76 0 i)) + 1 = gN u.2.2 59 0 (gN u.2.2 76 0 i)) && allN (mCanQ u.2.2 (gN u.2.2 74 0 i) (gN u.2.2 76 0 i)) (i_15 + 1)) = false := by first | (simp [allN_s, anyN_s, cntN_s, sumL_s, Int64.add_assoc, mCanQ, c_19, c_20, c_22] <;> omega) | grind [allN_s, anyN_s, cntN_s, sumL_s, Int64.add_assoc, mCanQ]
            exact ih62 (H, locs, ls) (by omega) ⟨trivial, hB, by show lv_has ls 6 [(0, .ref (a0)), (1, .int (nI (i))), (2, .int (nI (gN u.2.2 74 (0) (i)))), (3, .int (nI (gN u.2.2 76 (0) (i)))), (4, .int (b2i ((decide (gN u.2.2 68 0 (4 * (gN u.2.2 74 0 i) + gN u.2.2 56 0 (gN u.2.2 76 0 i)) + 1 = gN u.2.2 59 0 (gN u.2.2 76 0 i)) && allN (mCanQ u.2.2 (gN u.2.2 74 0 i) (gN u.2.2 76 0 i)) (i_15 + 1))))), (5, .int (nI (i_15 + 1)))]; rw [ea_23]; exact lv_sub hl [2, 3, 4, 5, 1, 0] rfl⟩
          · refine lv_iconst (v := nI 1) hx hb dX5_canCome_101 (by decide) ?_
            refine lv_goto (tgt := 106) hx hb dX5_canCome_102 (by decide) ?_
            refine lv_istore (lv' := [(4, .int (nI (1))), (0, .ref (a0)), (1, .int (nI (i))), (2, .int (nI (gN u.2.2 74 (0) (i)))), (3, .int (nI (gN u.2.2 76 (0) (i)))), (5, .int (nI (i_15)))]) hx hb dX5_canCome_106 hl (by decide) rfl (fun ls hl => ?_)
            refine lv_iinc (v := nI (i_15 + 1)) (lv' := [(5, .int (nI (i_15 + 1))), (4, .int (nI (1))), (0, .ref (a0)), (1, .int (nI (i))), (2, .int (nI (gN u.2.2 74 (0) (i)))), (3, .int (nI (gN u.2.2 76 (0) (i))))]) hx hb dX5_canCome_108 hl (k := 5) rfl (nI_add _ _) (by decide) rfl (fun ls hl => ?_)
            refine lv_goto (tgt := 62) hx hb dX5_canCome_111 (by decide) ?_
            have ea_24 : (decide (gN u.2.2 68 0 (4 * (gN u.2.2 74 0 i) + gN u.2.2 56 0 (gN u.2.2 76 0 i)) + 1 = gN u.2.2 59 0 (gN u.2.2 76 0 i)) && allN (mCanQ u.2.2 (gN u.2.2 74 0 i) (gN u.2.2 76 0 i)) (i_15 + 1)) = true := by first | (simp [allN_s, anyN_s, cntN_s, sumL_s, Int64.add_assoc, mCanQ, c_19, c_20, c_22] <;> omega) | grind [allN_s, anyN_s, cntN_s, sumL_s, Int64.add_assoc, mCanQ]
            exact ih62 (H, locs, ls) (by omega) ⟨trivial, hB, by show lv_has ls 6 [(0, .ref (a0)), (1, .int (nI (i))), (2, .int (nI (gN u.2.2 74 (0) (i)))), (3, .int (nI (gN u.2.2 76 (0) (i)))), (4, .int (b2i ((decide (gN u.2.2 68 0 (4 * (gN u.2.2 74 0 i) + gN u.2.2 56 0 (gN u.2.2 76 0 i)) + 1 = gN u.2.2 59 0 (gN u.2.2 76 0 i)) && allN (mCanQ u.2.2 (gN u.2.2 74 0 i) (gN u.2.2 76 0 i)) (i_15 + 1))))), (5, .int (nI (i_15 + 1)))]; rw [ea_24]; exact lv_sub hl [2, 3, 4, 5, 1, 0] rfl⟩
  · refine lv_iconst (v := nI 1) hx hb dX5_canCome_10 (by decide) ?_
    exact w_zret (v := nI 1) hF hr rfl hlocks hB (⟨rfl, b2i_c1 (by simp [mCanCome, c_1])⟩) dX5_canCome_11
set_option maxHeartbeats 4000000 in
set_option maxRecDepth 100000 in
theorem c_X5_send (l : Launch) (env : Ev) (s0 : Nat) (X : va_W) (u : St) (a0 : Nat) (_xa0 : Nat) (ha0 : At u 20 (0) a0) (kd : Nat) (to : Nat) (fr : Nat) (t : Nat) (hM : MI u) (hV : MV u.2.2) (hNm : Nb u.2.2) (hm : gN u.2.2 72 0 0 < 2400) (hk : kd < 100) (hto : to < 4) (hfr : fr < 4) (ht : t < 150) : Met l yX5_send [Cond.code yX5_send cX5_send 5 none] { frames := 0, cells := 0, slots := 0, locals := 0 } (va_Pc [.ref (a0), .int (nI (kd)), .int (nI (to)), .int (nI (fr)), .int (nI (t))] (Pr env s0 X u)) (va_Qv (fun u' => u' = wM u (mSend u.2.2 (kd) (to) (fr) (t))) (Po env s0 X) (fun q => s0 ≤ q)) 0 0 (fun q => s0 ≤ q) := by
  refine Met.ofW (cc := cX5_send) (maxL := 5) (ret := none) (by decide) rfl ?_
  intro p e s m args below meth c s₁ B hml hv
  obtain ⟨rfl, hv⟩ := hv
  have hx := B.exec
  have hb := B.bytes
  have hr := B.returns
  have hts : ∀ ww ∈ TT, ww.before #[.ref (a0), .int (nI (kd)), .int (nI (to)), .int (nI (fr)), .int (nI (t))] s = true := fun ww hw => hv.2.1 ww hw _
  have hown : s.vm.findClass RX5 = some m.cls := findClass_of_methodNamed B.named
  have hlocks := B.notSynchronized
  have hF : CallFix p m c cX5_send 5 s #[.ref (a0), .int (nI (kd)), .int (nI (to)), .int (nI (fr)), .int (nI (t))] TT RX5 := ⟨hx, hb, hml, hown, hts⟩
  have hB := Bd.entry hv
  have hl := lv_entry ([.ref (a0), .int (nI (kd)), .int (nI (to)), .int (nI (fr)), .int (nI (t))]) (n := 5) (Nat.le_of_ble_eq_true rfl)
  rw [lg_entry_eq]
  generalize (lg_sl ([.ref (a0), .int (nI (kd)), .int (nI (to)), .int (nI (fr)), .int (nI (t))]) ++ List.replicate (5 - (lg_sl ([.ref (a0), .int (nI (kd)), .int (nI (to)), .int (nI (fr)), .int (nI (t))])).length) Slot.unset).toArray = ls at hl ⊢
  have hl : lv_has ls 5 [(0, .ref (a0)), (1, .int (nI (kd))), (2, .int (nI (to))), (3, .int (nI (fr))), (4, .int (nI (t)))] := hl
  refine lv_aload_n hx hb dX5_send_0 rfl (lv_at hl 0 rfl) ?_
  refine w_get (v := .ref (sA u 44 0)) (fk := 23) hF hB ha0 (cn_20 env u (0)) rfl in_X5 (by decide) tw_3_118 rfl rfl dX5_send_1 ?_
  refine lv_aload_n hx hb dX5_send_4 rfl (lv_at hl 0 rfl) ?_
  refine w_get (v := .int (nI (gN u.2.2 72 (0) (0)))) (fk := 22) hF hB ha0 (cn_20 env u (0)) rfl in_X5 (by decide) tw_3_117 rfl rfl dX5_send_5 ?_
  refine lv_iload_n hx hb dX5_send_8 rfl (lv_at hl 1 rfl) ?_
  refine w_iast (x := nI (kd)) hF hB ⟨hM 44 (by decide), rfl⟩ (wM u (uN u.2.2 73 (0) (gN u.2.2 72 (0) (0)) (kd))) (cn_44 env u (0)) hm (by decide) rfl rfl (cu_N73 env u (0) (gN u.2.2 72 (0) (0)) (kd)) dX5_send_9 (fun H locs hB => ?_)
  refine lv_aload_n hx hb dX5_send_10 rfl (lv_at hl 0 rfl) ?_
  refine w_get (v := .ref (sA u 45 0)) (fk := 24) hF hB ha0 (cn_20 env (wM u (uN u.2.2 73 (0) (gN u.2.2 72 (0) (0)) (kd))) (0)) rfl in_X5 (by decide) tw_3_119 rfl rfl dX5_send_11 ?_
  refine lv_aload_n hx hb dX5_send_14 rfl (lv_at hl 0 rfl) ?_
  refine w_get (v := .int (nI (gN u.2.2 72 (0) (0)))) (fk := 22) hF hB ha0 (cn_20 env (wM u (uN u.2.2 73 (0) (gN u.2.2 72 (0) (0)) (kd))) (0)) rfl in_X5 (by decide) tw_3_117 rfl rfl dX5_send_15 ?_
  refine lv_iload_n hx hb dX5_send_18 rfl (lv_at hl 2 rfl) ?_
  refine w_iast (x := nI (to)) hF hB ⟨hM 45 (by decide), rfl⟩ (wM u (uN (uN u.2.2 73 (0) (gN u.2.2 72 (0) (0)) (kd)) 74 (0) (gN u.2.2 72 (0) (0)) (to))) (cn_45 env (wM u (uN u.2.2 73 (0) (gN u.2.2 72 (0) (0)) (kd))) (0)) hm (by decide) rfl rfl (cu_N74 env (wM u (uN u.2.2 73 (0) (gN u.2.2 72 (0) (0)) (kd))) (0) (gN u.2.2 72 (0) (0)) (to)) dX5_send_19 (fun H locs hB => ?_)
  refine lv_aload_n hx hb dX5_send_20 rfl (lv_at hl 0 rfl) ?_
  refine w_get (v := .ref (sA u 46 0)) (fk := 25) hF hB ha0 (cn_20 env (wM u (uN (uN u.2.2 73 (0) (gN u.2.2 72 (0) (0)) (kd)) 74 (0) (gN u.2.2 72 (0) (0)) (to))) (0)) rfl in_X5 (by decide) tw_3_120 rfl rfl dX5_send_21 ?_
  refine lv_aload_n hx hb dX5_send_24 rfl (lv_at hl 0 rfl) ?_
  refine w_get (v := .int (nI (gN u.2.2 72 (0) (0)))) (fk := 22) hF hB ha0 (cn_20 env (wM u (uN (uN u.2.2 73 (0) (gN u.2.2 72 (0) (0)) (kd)) 74 (0) (gN u.2.2 72 (0) (0)) (to))) (0)) rfl in_X5 (by decide) tw_3_117 rfl rfl dX5_send_25 ?_
  refine lv_iload_n hx hb dX5_send_28 rfl (lv_at hl 3 rfl) ?_
  refine w_iast (x := nI (fr)) hF hB ⟨hM 46 (by decide), rfl⟩ (wM u (uN (uN (uN u.2.2 73 (0) (gN u.2.2 72 (0) (0)) (kd)) 74 (0) (gN u.2.2 72 (0) (0)) (to)) 75 (0) (gN u.2.2 72 (0) (0)) (fr))) (cn_46 env (wM u (uN (uN u.2.2 73 (0) (gN u.2.2 72 (0) (0)) (kd)) 74 (0) (gN u.2.2 72 (0) (0)) (to))) (0)) hm (by decide) rfl rfl (cu_N75 env (wM u (uN (uN u.2.2 73 (0) (gN u.2.2 72 (0) (0)) (kd)) 74 (0) (gN u.2.2 72 (0) (0)) (to))) (0) (gN u.2.2 72 (0) (0)) (fr)) dX5_send_29 (fun H locs hB => ?_)
  refine lv_aload_n hx hb dX5_send_30 rfl (lv_at hl 0 rfl) ?_
  refine w_get (v := .ref (sA u 47 0)) (fk := 26) hF hB ha0 (cn_20 env (wM u (uN (uN (uN u.2.2 73 (0) (gN u.2.2 72 (0) (0)) (kd)) 74 (0) (gN u.2.2 72 (0) (0)) (to)) 75 (0) (gN u.2.2 72 (0) (0)) (fr))) (0)) rfl in_X5 (by decide) tw_3_121 rfl rfl dX5_send_31 ?_
  refine lv_aload_n hx hb dX5_send_34 rfl (lv_at hl 0 rfl) ?_
  refine w_get (v := .int (nI (gN u.2.2 72 (0) (0)))) (fk := 22) hF hB ha0 (cn_20 env (wM u (uN (uN (uN u.2.2 73 (0) (gN u.2.2 72 (0) (0)) (kd)) 74 (0) (gN u.2.2 72 (0) (0)) (to)) 75 (0) (gN u.2.2 72 (0) (0)) (fr))) (0)) rfl in_X5 (by decide) tw_3_117 rfl rfl dX5_send_35 ?_
  refine lv_iload hx hb dX5_send_38 (lv_at hl 4 rfl) ?_
  refine w_iast (x := nI (t)) hF hB ⟨hM 47 (by decide), rfl⟩ (wM u (uN (uN (uN (uN u.2.2 73 (0) (gN u.2.2 72 (0) (0)) (kd)) 74 (0) (gN u.2.2 72 (0) (0)) (to)) 75 (0) (gN u.2.2 72 (0) (0)) (fr)) 76 (0) (gN u.2.2 72 (0) (0)) (t))) (cn_47 env (wM u (uN (uN (uN u.2.2 73 (0) (gN u.2.2 72 (0) (0)) (kd)) 74 (0) (gN u.2.2 72 (0) (0)) (to)) 75 (0) (gN u.2.2 72 (0) (0)) (fr))) (0)) hm (by decide) rfl rfl (cu_N76 env (wM u (uN (uN (uN u.2.2 73 (0) (gN u.2.2 72 (0) (0)) (kd)) 74 (0) (gN u.2.2 72 (0) (0)) (to)) 75 (0) (gN u.2.2 72 (0) (0)) (fr))) (0) (gN u.2.2 72 (0) (0)) (t)) dX5_send_40 (fun H locs hB => ?_)
  refine lv_aload_n hx hb dX5_send_41 rfl (lv_at hl 0 rfl) ?_
  refine lv_dup hx hb dX5_send_42 rfl ?_
  refine w_get (v := .int (nI (gN u.2.2 72 (0) (0)))) (fk := 22) hF hB ha0 (cn_20 env (wM u (uN (uN (uN (uN u.2.2 73 (0) (gN u.2.2 72 (0) (0)) (kd)) 74 (0) (gN u.2.2 72 (0) (0)) (to)) 75 (0) (gN u.2.2 72 (0) (0)) (fr)) 76 (0) (gN u.2.2 72 (0) (0)) (t))) (0)) rfl in_X5 (by decide) tw_3_117 rfl rfl dX5_send_43 ?_
  refine lv_iconst (v := nI 1) hx hb dX5_send_46 (by decide) ?_
  refine w_iadd_n hx hb dX5_send_47 ?_
  refine w_put (fk := 22) (v := .int (nI ((gN u.2.2 72 (0) (0)) + 1))) (ty := .int) hF hB ha0 (wM u (uN (uN (uN (uN (uN u.2.2 73 (0) (gN u.2.2 72 (0) (0)) (kd)) 74 (0) (gN u.2.2 72 (0) (0)) (to)) 75 (0) (gN u.2.2 72 (0) (0)) (fr)) 76 (0) (gN u.2.2 72 (0) (0)) (t)) 72 (0) (0) ((gN u.2.2 72 (0) (0)) + 1))) (cn_20 env (wM u (uN (uN (uN (uN u.2.2 73 (0) (gN u.2.2 72 (0) (0)) (kd)) 74 (0) (gN u.2.2 72 (0) (0)) (to)) 75 (0) (gN u.2.2 72 (0) (0)) (fr)) 76 (0) (gN u.2.2 72 (0) (0)) (t))) (0)) rfl in_X5 tyX5 tyX5_ok nmX5 (by decide) tw_3_117 rfl rfl (by decide +kernel) rfl rfl (Nat.le_of_ble_eq_true rfl) rfl rfl (cu_N72 env (wM u (uN (uN (uN (uN u.2.2 73 (0) (gN u.2.2 72 (0) (0)) (kd)) 74 (0) (gN u.2.2 72 (0) (0)) (to)) 75 (0) (gN u.2.2 72 (0) (0)) (fr)) 76 (0) (gN u.2.2 72 (0) (0)) (t))) (0) ((gN u.2.2 72 (0) (0)) + 1)) dX5_send_48 (fun H locs hB => ?_)
  exact w_vret hF hr hlocks hB (rfl) dX5_send_51
set_option maxHeartbeats 4000000 in
set_option maxRecDepth 100000 in
theorem c_X5_lock (l : Launch) (env : Ev) (s0 : Nat) (X : va_W) (u : St) (a0 : Nat) (_xa0 : Nat) (ha0 : At u 20 (0) a0) (t : Nat) (w : Nat) (hM : MI u) (hV : MV u.2.2) (hNm : Nb u.2.2) (ht : t < 150) (hw : w < 4) : Met l yX5_lock [Cond.code yX5_lock cX5_lock 4 none] { frames := 0, cells := 0, slots := 0, locals := 0 } (va_Pc [.ref (a0), .int (nI (t)), .int (nI (w))] (Pr env s0 X u)) (va_Qv (fun u' => u' = wM u (mLock u.2.2 (t) (w) (gN u.2.2 52 0 0))) (Po env s0 X) (fun q => s0 ≤ q)) 0 0 (fun q => s0 ≤ q) := by
  refine Met.ofW (cc := cX5_lock) (maxL := 4) (ret := none) (by decide) rfl ?_
  intro p e s m args below meth c s₁ B hml hv
  obtain ⟨rfl, hv⟩ := hv
  have hx := B.exec
  have hb := B.bytes
  have hr := B.returns
  have hts : ∀ ww ∈ TT, ww.before #[.ref (a0), .int (nI (t)), .int (nI (w))] s = true := fun ww hw => hv.2.1 ww hw _
  have hown : s.vm.findClass RX5 = some m.cls := findClass_of_methodNamed B.named
  have hlocks := B.notSynchronized
  have hF : CallFix p m c cX5_lock 4 s #[.ref (a0), .int (nI (t)), .int (nI (w))] TT RX5 := ⟨hx, hb, hml, hown, hts⟩
  have hB := Bd.entry hv
  have hl := lv_entry ([.ref (a0), .int (nI (t)), .int (nI (w))]) (n := 4) (Nat.le_of_ble_eq_true rfl)
  rw [lg_entry_eq]
  generalize (lg_sl ([.ref (a0), .int (nI (t)), .int (nI (w))]) ++ List.replicate (4 - (lg_sl ([.ref (a0), .int (nI (t)), .int (nI (w))])).length) Slot.unset).toArray = ls at hl ⊢
  have hl : lv_has ls 4 [(0, .ref (a0)), (1, .int (nI (t))), (2, .int (nI (w)))] := hl
  refine lv_iconst (v := nI 0) hx hb dX5_lock_0 (by decide) ?_
  refine lv_istore_n (lv' := [(3, .int (nI (0))), (0, .ref (a0)), (1, .int (nI (t))), (2, .int (nI (w)))]) hx hb dX5_lock_1 rfl hl (by decide) rfl (fun ls hl => ?_)
  refine wloopH (σ := Heap × List Loc × Array Slot) (G := fun x => W p l e _ s m _ below meth c x.1 x.2.1 _ _ _ (F0 m 2 x.2.2 [])) (P := fun i_1 x => (True) ∧ Bd env s0 X (wM u (mLock u.2.2 t w i_1)) s x.1 x.2.1 ∧ lv_has x.2.2 4 [(0, .ref (a0)), (1, .int (nI (t))), (2, .int (nI (w))), (3, .int (nI (i_1)))]) (N := gN u.2.2 52 0 0) ?_ 0 (_, _, ls) (Nat.zero_le _) ⟨trivial, hB, lv_sub hl [1, 2, 3, 0] rfl⟩
  rintro i_1 ⟨H, locs, ls⟩ hi_2 ⟨hv_3, hB, hl⟩ ih2
  replace hB : Bd env s0 X (wM u (mLock u.2.2 t w i_1)) s H locs := hB
  replace hl : lv_has ls 4 [(0, .ref (a0)), (1, .int (nI (t))), (2, .int (nI (w))), (3, .int (nI (i_1)))] := hl
  show W p l e _ s m _ below meth c H locs _ _ _ (F0 m 2 ls [])
  have := hNm 52 0 0
  have := hV.nth
  have hV_4 : MV (mLock u.2.2 t w i_1) := MV.ofN (mLock_N _ _ _ _) hV
  have hNm_5 : Nb (mLock u.2.2 t w i_1) := Nb.ofN (mLock_N _ _ _ _) hNm
  refine lv_iload_n hx hb dX5_lock_2 rfl (lv_at hl 3 rfl) ?_
  refine lv_aload_n hx hb dX5_lock_3 rfl (lv_at hl 0 rfl) ?_
  refine w_get (v := .int (nI (gN (mLock u.2.2 t w i_1) 52 (0) (0)))) (fk := 2) hF hB ha0 (cn_20 env (wM u (mLock u.2.2 t w i_1)) (0)) rfl in_X5 (by decide) tw_3_97 rfl rfl dX5_lock_4 ?_
  refine w_icge_n (tgt := 52) (by omega) (by have := hNm_5 52 (0) (0); omega) hx hb dX5_lock_7 (by decide) (fun c_6 => ?_) (fun c_6 => ?_)
  · rw [mLock_N] at c_6
    exact w_vret hF hr hlocks hB (by rw [show i_1 = gN u.2.2 52 0 0 by omega]) dX5_lock_52
  · rw [mLock_N] at c_6
    refine lv_aload_n hx hb dX5_lock_10 rfl (lv_at hl 0 rfl) ?_
    refine w_get (v := .ref (sA u 35 0)) (fk := 14) hF hB ha0 (cn_20 env (wM u (mLock u.2.2 t w i_1)) (0)) rfl in_X5 (by decide) tw_3_109 rfl rfl dX5_lock_11 ?_
    refine lv_bipush (v := nI 12) hx hb dX5_lock_14 (by decide) ?_
    refine lv_iload_n hx hb dX5_lock_16 rfl (lv_at hl 1 rfl) ?_
    refine w_imul_n hx hb dX5_lock_17 ?_
    refine lv_iload_n hx hb dX5_lock_18 rfl (lv_at hl 3 rfl) ?_
    refine w_iadd_n hx hb dX5_lock_19 ?_
    refine w_zald (v := .int (b2i (gB (mLock u.2.2 t w i_1) 64 (0) ((12 * t) + i_1)))) hF hB ⟨hM 35 (by decide), rfl⟩ (cn_35 env (wM u (mLock u.2.2 t w i_1)) (0)) (by omega) rfl (by decide) dX5_lock_20 ?_
    refine w_ifeq_b (tgt := 46) hx hb dX5_lock_21 (by decide) (fun c_7 => ?_) (fun c_7 => ?_)
    · refine lv_iinc (v := nI (i_1 + 1)) (lv' := [(3, .int (nI (i_1 + 1))), (0, .ref (a0)), (1, .int (nI (t))), (2, .int (nI (w)))]) hx hb dX5_lock_46 hl (k := 3) rfl (nI_add _ _) (by decide) rfl (fun ls hl => ?_)
      refine lv_goto (tgt := 2) hx hb dX5_lock_49 (by decide) ?_
      have em_8 : (mLock u.2.2 t w (i_1 + 1)) = (mLock u.2.2 t w i_1) := by first | rfl | simp [mLock, c_6, c_7]
      exact ih2 (H, locs, ls) (by omega) ⟨trivial, (by rw [em_8]; exact hB), by exact lv_sub hl [1, 2, 3, 0] rfl⟩
    · refine lv_aload_n hx hb dX5_lock_24 rfl (lv_at hl 0 rfl) ?_
      refine w_get (v := .ref (sA u 24 0)) (fk := 3) hF hB ha0 (cn_20 env (wM u (mLock u.2.2 t w i_1)) (0)) rfl in_X5 (by decide) tw_3_98 rfl rfl dX5_lock_25 ?_
      refine lv_iload_n hx hb dX5_lock_28 rfl (lv_at hl 3 rfl) ?_
      refine w_iald (v := .int (nI (gN (mLock u.2.2 t w i_1) 53 (0) (i_1)))) hF hB ⟨hM 24 (by decide), rfl⟩ (cn_24 env (wM u (mLock u.2.2 t w i_1)) (0)) (by omega) rfl (by decide) dX5_lock_29 ?_
      refine lv_iload_n hx hb dX5_lock_30 rfl (lv_at hl 2 rfl) ?_
      refine w_icne_n (tgt := 46) (by have := hNm_5 53 (0) (i_1); omega) (by omega) hx hb dX5_lock_31 (by decide) (fun c_9 => ?_) (fun c_9 => ?_)
      · refine lv_iinc (v := nI (i_1 + 1)) (lv' := [(3, .int (nI (i_1 + 1))), (0, .ref (a0)), (1, .int (nI (t))), (2, .int (nI (w)))]) hx hb dX5_lock_46 hl (k := 3) rfl (nI_add _ _) (by decide) rfl (fun ls hl => ?_)
        refine lv_goto (tgt := 2) hx hb dX5_lock_49 (by decide) ?_
        have em_10 : (mLock u.2.2 t w (i_1 + 1)) = (mLock u.2.2 t w i_1) := by first | rfl | simp [mLock, c_6, c_7, c_9]
        exact ih2 (H, locs, ls) (by omega) ⟨trivial, (by rw [em_10]; exact hB), by exact lv_sub hl [1, 2, 3, 0] rfl⟩
      · refine lv_aload_n hx hb dX5_lock_34 rfl (lv_at hl 0 rfl) ?_
        refine w_get (v := .ref (sA u 42 0)) (fk := 21) hF hB ha0 (cn_20 env (wM u (mLock u.2.2 t w i_1)) (0)) rfl in_X5 (by decide) tw_3_116 rfl rfl dX5_lock_35 ?_
        refine lv_bipush (v := nI 12) hx hb dX5_lock_38 (by decide) ?_
        refine lv_iload_n hx hb dX5_lock_40 rfl (lv_at hl 2 rfl) ?_
        refine w_imul_n hx hb dX5_lock_41 ?_
        refine lv_iload_n hx hb dX5_lock_42 rfl (lv_at hl 3 rfl) ?_
        refine w_iadd_n hx hb dX5_lock_43 ?_
        refine lv_iload_n hx hb dX5_lock_44 rfl (lv_at hl 1 rfl) ?_
        refine w_iast (x := nI t) hF hB ⟨hM 42 (by decide), rfl⟩ (wM u (uI (mLock u.2.2 t w i_1) 71 (0) ((12 * w) + i_1) (nI t))) (cn_42 env (wM u (mLock u.2.2 t w i_1)) (0)) (by omega) (by decide) rfl rfl (cu_I71 env (wM u (mLock u.2.2 t w i_1)) (0) ((12 * w) + i_1) (nI t)) dX5_lock_45 (fun H locs hB => ?_)
        refine lv_iinc (v := nI (i_1 + 1)) (lv' := [(3, .int (nI (i_1 + 1))), (0, .ref (a0)), (1, .int (nI (t))), (2, .int (nI (w)))]) hx hb dX5_lock_46 hl (k := 3) rfl (nI_add _ _) (by decide) rfl (fun ls hl => ?_)
        refine lv_goto (tgt := 2) hx hb dX5_lock_49 (by decide) ?_
        have em_11 : (mLock u.2.2 t w (i_1 + 1)) = (uI (mLock u.2.2 t w i_1) 71 (0) ((12 * w) + i_1) (nI t)) := by first | rfl | simp [mLock, c_6, c_7, c_9]
        exact ih2 (H, locs, ls) (by omega) ⟨trivial, (by rw [em_11]; exact hB), by exact lv_sub hl [1, 2, 3, 0] rfl⟩
set_option maxHeartbeats 4000000 in
set_option maxRecDepth 100000 in
theorem c_X5_unlock (l : Launch) (env : Ev) (s0 : Nat) (X : va_W) (u : St) (a0 : Nat) (_xa0 : Nat) (ha0 : At u 20 (0) a0) (t : Nat) (w : Nat) (hM : MI u) (hV : MV u.2.2) (hNm : Nb u.2.2) (ht : t < 150) (hw : w < 4) : Met l yX5_unlock [Cond.code yX5_unlock cX5_unlock 4 none] { frames := 0, cells := 0, slots := 0, locals := 0 } (va_Pc [.ref (a0), .int (nI (t)), .int (nI (w))] (Pr env s0 X u)) (va_Qv (fun u' => u' = wM u (mUnlock u.2.2 (t) (w) (gN u.2.2 52 0 0))) (Po env s0 X) (fun q => s0 ≤ q)) 0 0 (fun q => s0 ≤ q) := by
  refine Met.ofW (cc := cX5_unlock) (maxL := 4) (ret := none) (by decide) rfl ?_
  intro p e s m args below meth c s₁ B hml hv
  obtain ⟨rfl, hv⟩ := hv
  have hx := B.exec
  have hb := B.bytes
  have hr := B.returns
  have hts : ∀ ww ∈ TT, ww.before #[.ref (a0), .int (nI (t)), .int (nI (w))] s = true := fun ww hw => hv.2.1 ww hw _
  have hown : s.vm.findClass RX5 = some m.cls := findClass_of_methodNamed B.named
  have hlocks := B.notSynchronized
  have hF : CallFix p m c cX5_unlock 4 s #[.ref (a0), .int (nI (t)), .int (nI (w))] TT RX5 := ⟨hx, hb, hml, hown, hts⟩
  have hB := Bd.entry hv
  have hl := lv_entry ([.ref (a0), .int (nI (t)), .int (nI (w))]) (n := 4) (Nat.le_of_ble_eq_true rfl)
  rw [lg_entry_eq]
  generalize (lg_sl ([.ref (a0), .int (nI (t)), .int (nI (w))]) ++ List.replicate (4 - (lg_sl ([.ref (a0), .int (nI (t)), .int (nI (w))])).length) Slot.unset).toArray = ls at hl ⊢
  have hl : lv_has ls 4 [(0, .ref (a0)), (1, .int (nI (t))), (2, .int (nI (w)))] := hl
  refine lv_iconst (v := nI 0) hx hb dX5_unlock_0 (by decide) ?_
  refine lv_istore_n (lv' := [(3, .int (nI (0))), (0, .ref (a0)), (1, .int (nI (t))), (2, .int (nI (w)))]) hx hb dX5_unlock_1 rfl hl (by decide) rfl (fun ls hl => ?_)
  refine wloopH (σ := Heap × List Loc × Array Slot) (G := fun x => W p l e _ s m _ below meth c x.1 x.2.1 _ _ _ (F0 m 2 x.2.2 [])) (P := fun i_1 x => (True) ∧ Bd env s0 X (wM u (mUnlock u.2.2 t w i_1)) s x.1 x.2.1 ∧ lv_has x.2.2 4 [(0, .ref (a0)), (1, .int (nI (t))), (2, .int (nI (w))), (3, .int (nI (i_1)))]) (N := gN u.2.2 52 0 0) ?_ 0 (_, _, ls) (Nat.zero_le _) ⟨trivial, hB, lv_sub hl [1, 2, 3, 0] rfl⟩
  rintro i_1 ⟨H, locs, ls⟩ hi_2 ⟨hv_3, hB, hl⟩ ih2
  replace hB : Bd env s0 X (wM u (mUnlock u.2.2 t w i_1)) s H locs := hB
  replace hl : lv_has ls 4 [(0, .ref (a0)), (1, .int (nI (t))), (2, .int (nI (w))), (3, .int (nI (i_1)))] := hl
  show W p l e _ s m _ below meth c H locs _ _ _ (F0 m 2 ls [])
  have := hNm 52 0 0
  have := hV.nth
  have hV_4 : MV (mUnlock u.2.2 t w i_1) := MV.ofN (mUnlock_N _ _ _ _) hV
  have hNm_5 : Nb (mUnlock u.2.2 t w i_1) := Nb.ofN (mUnlock_N _ _ _ _) hNm
  refine lv_iload_n hx hb dX5_unlock_2 rfl (lv_at hl 3 rfl) ?_
  refine lv_aload_n hx hb dX5_unlock_3 rfl (lv_at hl 0 rfl) ?_
  refine w_get (v := .int (nI (gN (mUnlock u.2.2 t w i_1) 52 (0) (0)))) (fk := 2) hF hB ha0 (cn_20 env (wM u (mUnlock u.2.2 t w i_1)) (0)) rfl in_X5 (by decide) tw_3_97 rfl rfl dX5_unlock_4 ?_
  refine w_icge_n (tgt := 44) (by omega) (by have := hNm_5 52 (0) (0); omega) hx hb dX5_unlock_7 (by decide) (fun c_6 => ?_) (fun c_6 => ?_)
  · rw [mUnlock_N] at c_6
    exact w_vret hF hr hlocks hB (by rw [show i_1 = gN u.2.2 52 0 0 by omega]) dX5_unlock_44
  · rw [mUnlock_N] at c_6
    refine lv_aload_n hx hb dX5_unlock_10 rfl (lv_at hl 0 rfl) ?_
    refine w_get (v := .ref (sA u 42 0)) (fk := 21) hF hB ha0 (cn_20 env (wM u (mUnlock u.2.2 t w i_1)) (0)) rfl in_X5 (by decide) tw_3_116 rfl rfl dX5_unlock_11 ?_
    refine lv_bipush (v := nI 12) hx hb dX5_unlock_14 (by decide) ?_
    refine lv_iload_n hx hb dX5_unlock_16 rfl (lv_at hl 2 rfl) ?_
    refine w_imul_n hx hb dX5_unlock_17 ?_
    refine lv_iload_n hx hb dX5_unlock_18 rfl (lv_at hl 3 rfl) ?_
    refine w_iadd_n hx hb dX5_unlock_19 ?_
    refine w_iald (v := .int (gI (mUnlock u.2.2 t w i_1) 71 (0) ((12 * w) + i_1))) hF hB ⟨hM 42 (by decide), rfl⟩ (cn_42 env (wM u (mUnlock u.2.2 t w i_1)) (0)) (by omega) rfl (by decide) dX5_unlock_20 ?_
    refine lv_iload_n hx hb dX5_unlock_21 rfl (lv_at hl 1 rfl) ?_
    refine lv_icmp_ne (tgt := 38) hx hb dX5_unlock_22 (by decide) (fun c_7 => ?_) (fun c_7 => ?_)
    · refine lv_iinc (v := nI (i_1 + 1)) (lv' := [(3, .int (nI (i_1 + 1))), (0, .ref (a0)), (1, .int (nI (t))), (2, .int (nI (w)))]) hx hb dX5_unlock_38 hl (k := 3) rfl (nI_add _ _) (by decide) rfl (fun ls hl => ?_)
      refine lv_goto (tgt := 2) hx hb dX5_unlock_41 (by decide) ?_
      have em_8 : (mUnlock u.2.2 t w (i_1 + 1)) = (mUnlock u.2.2 t w i_1) := by first | rfl | simp [mUnlock, c_6, c_7]
      exact ih2 (H, locs, ls) (by omega) ⟨trivial, (by rw [em_8]; exact hB), by exact lv_sub hl [1, 2, 3, 0] rfl⟩
    · refine lv_aload_n hx hb dX5_unlock_25 rfl (lv_at hl 0 rfl) ?_
      refine w_get (v := .ref (sA u 42 0)) (fk := 21) hF hB ha0 (cn_20 env (wM u (mUnlock u.2.2 t w i_1)) (0)) rfl in_X5 (by decide) tw_3_116 rfl rfl dX5_unlock_26 ?_
      refine lv_bipush (v := nI 12) hx hb dX5_unlock_29 (by decide) ?_
      refine lv_iload_n hx hb dX5_unlock_31 rfl (lv_at hl 2 rfl) ?_
      refine w_imul_n hx hb dX5_unlock_32 ?_
      refine lv_iload_n hx hb dX5_unlock_33 rfl (lv_at hl 3 rfl) ?_
      refine w_iadd_n hx hb dX5_unlock_34 ?_
      refine lv_bipush (v := -4) hx hb dX5_unlock_35 (by decide) ?_
      refine w_iast (x := -4) hF hB ⟨hM 42 (by decide), rfl⟩ (wM u (uI (mUnlock u.2.2 t w i_1) 71 (0) ((12 * w) + i_1) (-4))) (cn_42 env (wM u (mUnlock u.2.2 t w i_1)) (0)) (by omega) (by decide) rfl rfl (cu_I71 env (wM u (mUnlock u.2.2 t w i_1)) (0) ((12 * w) + i_1) (-4)) dX5_unlock_37 (fun H locs hB => ?_)
      refine lv_iinc (v := nI (i_1 + 1)) (lv' := [(3, .int (nI (i_1 + 1))), (0, .ref (a0)), (1, .int (nI (t))), (2, .int (nI (w)))]) hx hb dX5_unlock_38 hl (k := 3) rfl (nI_add _ _) (by decide) rfl (fun ls hl => ?_)
      refine lv_goto (tgt := 2) hx hb dX5_unlock_41 (by decide) ?_
      have em_9 : (mUnlock u.2.2 t w (i_1 + 1)) = (uI (mUnlock u.2.2 t w i_1) 71 (0) ((12 * w) + i_1) (-4)) := by first | rfl | simp [mUnlock, c_6, c_7]
      exact ih2 (H, locs, ls) (by omega) ⟨trivial, (by rw [em_9]; exact hB), by exact lv_sub hl [1, 2, 3, 0] rfl⟩

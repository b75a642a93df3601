set_option maxHeartbeats 4000000 in
set_option maxRecDepth 100000 in
theorem c_X4_oneIf (l : Launch) (env : Ev) (s0 : Nat) (X : va_W) (u : St) (b : Bool)  : Met l yX4_oneIf [Cond.code yX4_oneIf cX4_oneIf 1 (some .int)] { frames := 0, cells := 0, slots := 0, locals := 0 } (va_Pc [.int (b2i (b))] (Pr env s0 X u)) (va_Qi (fun r u' => u = u' ∧ r = b2i b) (Po env s0 X) (fun q => s0 ≤ q)) 0 0 (fun q => s0 ≤ q) := by
  refine Met.ofW (cc := cX4_oneIf) (maxL := 1) (ret := (some .int)) (by decide) rfl ?_
  intro p e s m args below meth c s₁ B hml hv
  obtain ⟨rfl, hv⟩ := hv
  have hx := B.exec
  have hb := B.bytes
  have hr := B.returns
  have hts : ∀ ww ∈ TT, ww.before #[.int (b2i (b))] s = true := fun ww hw => hv.2.1 ww hw _
  have hown : s.vm.findClass RX4 = some m.cls := findClass_of_methodNamed B.named
  have hlocks := B.notSynchronized
  have hF : CallFix p m c cX4_oneIf 1 s #[.int (b2i (b))] TT RX4 := ⟨hx, hb, hml, hown, hts⟩
  have hB := Bd.entry hv
  have hl := lv_entry ([.int (b2i (b))]) (n := 1) (Nat.le_of_ble_eq_true rfl)
  rw [lg_entry_eq]
  generalize (lg_sl ([.int (b2i (b))]) ++ List.replicate (1 - (lg_sl ([.int (b2i (b))])).length) Slot.unset).toArray = ls at hl ⊢
  have hl : lv_has ls 1 [(0, .int (b2i (b)))] := hl
  refine lv_iload_n hx hb dX4_oneIf_0 rfl (lv_at hl 0 rfl) ?_
  refine w_ifeq_b (tgt := 8) hx hb dX4_oneIf_1 (by decide) (fun c_1 => ?_) (fun c_1 => ?_)
  · refine lv_iconst (v := nI 0) hx hb dX4_oneIf_8 (by decide) ?_
    exact w_iret (v := nI 0) hF hr hlocks hB (⟨rfl, by rw [c_1]; rfl⟩) dX4_oneIf_9
  · refine lv_iconst (v := nI 1) hx hb dX4_oneIf_4 (by decide) ?_
    refine lv_goto (tgt := 9) hx hb dX4_oneIf_5 (by decide) ?_
    exact w_iret (v := nI 1) hF hr hlocks hB (⟨rfl, by rw [c_1]; rfl⟩) dX4_oneIf_9
set_option maxHeartbeats 4000000 in
set_option maxRecDepth 100000 in
theorem c_X4_isElement (l : Launch) (env : Ev) (s0 : Nat) (X : va_W) (u : St) (v : Int32)  : Met l yX4_isElement [Cond.code yX4_isElement cX4_isElement 1 (some .boolean)] { frames := 0, cells := 0, slots := 0, locals := 0 } (va_Pc [.int (v)] (Pr env s0 X u)) (va_Qi (fun r u' => u = u' ∧ r = b2i (ix v 8).isSome) (Po env s0 X) (fun q => s0 ≤ q)) 0 0 (fun q => s0 ≤ q) := by
  refine Met.ofW (cc := cX4_isElement) (maxL := 1) (ret := (some .boolean)) (by decide) rfl ?_
  intro p e s m args below meth c s₁ B hml hv
  obtain ⟨rfl, hv⟩ := hv
  have hx := B.exec
  have hb := B.bytes
  have hr := B.returns
  have hts : ∀ ww ∈ TT, ww.before #[.int (v)] s = true := fun ww hw => hv.2.1 ww hw _
  have hown : s.vm.findClass RX4 = some m.cls := findClass_of_methodNamed B.named
  have hlocks := B.notSynchronized
  have hF : CallFix p m c cX4_isElement 1 s #[.int (v)] TT RX4 := ⟨hx, hb, hml, hown, hts⟩
  have hB := Bd.entry hv
  have hl := lv_entry ([.int (v)]) (n := 1) (Nat.le_of_ble_eq_true rfl)
  rw [lg_entry_eq]
  generalize (lg_sl ([.int (v)]) ++ List.replicate (1 - (lg_sl ([.int (v)])).length) Slot.unset).toArray = ls at hl ⊢
  have hl : lv_has ls 1 [(0, .int (v))] := hl
  refine lv_iload_n hx hb dX4_isElement_0 rfl (lv_at hl 0 rfl) ?_
  refine lv_if_lt (tgt := 14) hx hb dX4_isElement_1 (by decide) (fun c_1 => ?_) (fun c_1 => ?_)
  · refine lv_iconst (v := nI 0) hx hb dX4_isElement_14 (by decide) ?_
    exact w_zret (v := nI 0) hF hr rfl hlocks hB (⟨rfl, b2i_c0 (by rw [ix_lt c_1]; rfl)⟩) dX4_isElement_15
  · refine lv_iload_n hx hb dX4_isElement_4 rfl (lv_at hl 0 rfl) ?_
    refine lv_bipush (v := nI 8) hx hb dX4_isElement_5 (by decide) ?_
    refine lv_icmp_ge (tgt := 14) hx hb dX4_isElement_7 (by decide) (fun c_2 => ?_) (fun c_2 => ?_)
    · refine lv_iconst (v := nI 0) hx hb dX4_isElement_14 (by decide) ?_
      exact w_zret (v := nI 0) hF hr rfl hlocks hB (⟨rfl, b2i_c0 (by rw [ix_ge (by decide) c_2]; rfl)⟩) dX4_isElement_15
    · refine lv_iconst (v := nI 1) hx hb dX4_isElement_10 (by decide) ?_
      refine lv_goto (tgt := 15) hx hb dX4_isElement_11 (by decide) ?_
      exact w_zret (v := nI 1) hF hr rfl hlocks hB (⟨rfl, b2i_c1 (by obtain ⟨j, h1, h2⟩ := ix_in (n := 8) (by decide) c_1 c_2; rw [h2, ix_nI (by decide) h1]; rfl)⟩) dX4_isElement_15
set_option maxHeartbeats 4000000 in
set_option maxRecDepth 100000 in
theorem c_X2_slotOf (l : Launch) (env : Ev) (s0 : Nat) (X : va_W) (u : St) (a0 : Nat) (k : Nat) (ha0 : At u 4 (k) a0) (el : Nat)  : Met l yX2_slotOf [Cond.code yX2_slotOf cX2_slotOf 2 (some .int)] { frames := 0, cells := 0, slots := 0, locals := 0 } (va_Pc [.ref (a0), .int (nI (el))] (Pr env s0 X u)) (va_Qi (fun r u' => u = u' ∧ r = nI (k * 8 + el)) (Po env s0 X) (fun q => s0 ≤ q)) 0 0 (fun q => s0 ≤ q) := by
  refine Met.ofW (cc := cX2_slotOf) (maxL := 2) (ret := (some .int)) (by decide) rfl ?_
  intro p e s m args below meth c s₁ B hml hv
  obtain ⟨rfl, hv⟩ := hv
  have hx := B.exec
  have hb := B.bytes
  have hr := B.returns
  have hts : ∀ ww ∈ TT, ww.before #[.ref (a0), .int (nI (el))] s = true := fun ww hw => hv.2.1 ww hw _
  have hown : s.vm.findClass RX2 = some m.cls := findClass_of_methodNamed B.named
  have hlocks := B.notSynchronized
  have hF : CallFix p m c cX2_slotOf 2 s #[.ref (a0), .int (nI (el))] TT RX2 := ⟨hx, hb, hml, hown, hts⟩
  have hB := Bd.entry hv
  have hl := lv_entry ([.ref (a0), .int (nI (el))]) (n := 2) (Nat.le_of_ble_eq_true rfl)
  rw [lg_entry_eq]
  generalize (lg_sl ([.ref (a0), .int (nI (el))]) ++ List.replicate (2 - (lg_sl ([.ref (a0), .int (nI (el))])).length) Slot.unset).toArray = ls at hl ⊢
  have hl : lv_has ls 2 [(0, .ref (a0)), (1, .int (nI (el)))] := hl
  refine lv_aload_n hx hb dX2_slotOf_0 rfl (lv_at hl 0 rfl) ?_
  refine w_get (v := .int (nI (k))) (fk := 0) hF hB ha0 (cn_4 env u (k)) rfl in_X2 (by decide) tw_1_126 rfl rfl dX2_slotOf_1 ?_
  refine lv_bipush (v := nI 8) hx hb dX2_slotOf_4 (by decide) ?_
  refine w_imul_n hx hb dX2_slotOf_6 ?_
  refine lv_iload_n hx hb dX2_slotOf_7 rfl (lv_at hl 1 rfl) ?_
  refine w_iadd_n hx hb dX2_slotOf_8 ?_
  exact w_iret (v := nI ((k * 8) + el)) hF hr hlocks hB (⟨rfl, rfl⟩) dX2_slotOf_9
set_option maxHeartbeats 4000000 in
set_option maxRecDepth 100000 in
theorem c_X3_hasCommit (l : Launch) (env : Ev) (s0 : Nat) (X : va_W) (u : St) (a0 : Nat) (t : Nat) (ha0 : At u 8 (t) a0) (hNb : Nb u.2.1) : Met l yX3_hasCommit [Cond.code yX3_hasCommit cX3_hasCommit 1 (some .boolean)] { frames := 0, cells := 0, slots := 0, locals := 0 } (va_Pc [.ref (a0)] (Pr env s0 X u)) (va_Qi (fun r u' => u = u' ∧ r = b2i (decide (0 < gN u.2.1 17 t 0))) (Po env s0 X) (fun q => s0 ≤ q)) 0 0 (fun q => s0 ≤ q) := by
  refine Met.ofW (cc := cX3_hasCommit) (maxL := 1) (ret := (some .boolean)) (by decide) rfl ?_
  intro p e s m args below meth c s₁ B hml hv
  obtain ⟨rfl, hv⟩ := hv
  have hx := B.exec
  have hb := B.bytes
  have hr := B.returns
  have hts : ∀ ww ∈ TT, ww.before #[.ref (a0)] s = true := fun ww hw => hv.2.1 ww hw _
  have hown : s.vm.findClass RX3 = some m.cls := findClass_of_methodNamed B.named
  have hlocks := B.notSynchronized
  have hF : CallFix p m c cX3_hasCommit 1 s #[.ref (a0)] TT RX3 := ⟨hx, hb, hml, hown, hts⟩
  have hB := Bd.entry hv
  have hl := lv_entry ([.ref (a0)]) (n := 1) (Nat.le_of_ble_eq_true rfl)
  rw [lg_entry_eq]
  generalize (lg_sl ([.ref (a0)]) ++ List.replicate (1 - (lg_sl ([.ref (a0)])).length) Slot.unset).toArray = ls at hl ⊢
  have hl : lv_has ls 1 [(0, .ref (a0))] := hl
  refine lv_aload_n hx hb dX3_hasCommit_0 rfl (lv_at hl 0 rfl) ?_
  refine w_get (v := .int (nI (gN u.2.1 17 (t) (0)))) (fk := 10) hF hB ha0 (cn_8 env u (t)) rfl in_X3 (by decide) tw_1_237 rfl rfl dX3_hasCommit_1 ?_
  refine w_ifle_n (tgt := 11) (by have := hNb 17 (t) (0); omega) hx hb dX3_hasCommit_4 (by decide) (fun c_1 => ?_) (fun c_1 => ?_)
  · refine lv_iconst (v := nI 0) hx hb dX3_hasCommit_11 (by decide) ?_
    exact w_zret (v := nI 0) hF hr rfl hlocks hB (⟨rfl, b2i_c0 (by simp [c_1] <;> omega)⟩) dX3_hasCommit_12
  · refine lv_iconst (v := nI 1) hx hb dX3_hasCommit_7 (by decide) ?_
    refine lv_goto (tgt := 12) hx hb dX3_hasCommit_8 (by decide) ?_
    exact w_zret (v := nI 1) hF hr rfl hlocks hB (⟨rfl, b2i_c1 (by simp [c_1] <;> omega)⟩) dX3_hasCommit_12
set_option maxHeartbeats 4000000 in
set_option maxRecDepth 100000 in
theorem c_X3_wroteAnything (l : Launch) (env : Ev) (s0 : Nat) (X : va_W) (u : St) (a0 : Nat) (t : Nat) (ha0 : At u 8 (t) a0) (hNb : Nb u.2.1) : Met l yX3_wroteAnything [Cond.code yX3_wroteAnything cX3_wroteAnything 1 (some .boolean)] { frames := 0, cells := 0, slots := 0, locals := 0 } (va_Pc [.ref (a0)] (Pr env s0 X u)) (va_Qi (fun r u' => u = u' ∧ r = b2i (cAny u.2.1 t)) (Po env s0 X) (fun q => s0 ≤ q)) 0 0 (fun q => s0 ≤ q) := by
  refine Met.ofW (cc := cX3_wroteAnything) (maxL := 1) (ret := (some .boolean)) (by decide) rfl ?_
  intro p e s m args below meth c s₁ B hml hv
  obtain ⟨rfl, hv⟩ := hv
  have hx := B.exec
  have hb := B.bytes
  have hr := B.returns
  have hts : ∀ ww ∈ TT, ww.before #[.ref (a0)] s = true := fun ww hw => hv.2.1 ww hw _
  have hown : s.vm.findClass RX3 = some m.cls := findClass_of_methodNamed B.named
  have hlocks := B.notSynchronized
  have hF : CallFix p m c cX3_wroteAnything 1 s #[.ref (a0)] TT RX3 := ⟨hx, hb, hml, hown, hts⟩
  have hB := Bd.entry hv
  have hl := lv_entry ([.ref (a0)]) (n := 1) (Nat.le_of_ble_eq_true rfl)
  rw [lg_entry_eq]
  generalize (lg_sl ([.ref (a0)]) ++ List.replicate (1 - (lg_sl ([.ref (a0)])).length) Slot.unset).toArray = ls at hl ⊢
  have hl : lv_has ls 1 [(0, .ref (a0))] := hl
  refine lv_aload_n hx hb dX3_wroteAnything_0 rfl (lv_at hl 0 rfl) ?_
  refine w_get (v := .int (nI (gN u.2.1 15 (t) (0)))) (fk := 8) hF hB ha0 (cn_8 env u (t)) rfl in_X3 (by decide) tw_1_233 rfl rfl dX3_wroteAnything_1 ?_
  refine w_ifgt_n (tgt := 14) (by have := hNb 15 (t) (0); omega) hx hb dX3_wroteAnything_4 (by decide) (fun c_1 => ?_) (fun c_1 => ?_)
  · refine lv_iconst (v := nI 1) hx hb dX3_wroteAnything_14 (by decide) ?_
    refine lv_goto (tgt := 19) hx hb dX3_wroteAnything_15 (by decide) ?_
    exact w_zret (v := nI 1) hF hr rfl hlocks hB (⟨rfl, b2i_c1 (by simp [cAny, c_1] <;> omega)⟩) dX3_wroteAnything_19
  · refine lv_aload_n hx hb dX3_wroteAnything_7 rfl (lv_at hl 0 rfl) ?_
    refine w_get (v := .int (b2i (gB u.2.1 14 (t) (0)))) (fk := 7) hF hB ha0 (cn_8 env u (t)) rfl in_X3 (by decide) tw_1_232 rfl rfl dX3_wroteAnything_8 ?_
    refine w_ifeq_b (tgt := 18) hx hb dX3_wroteAnything_11 (by decide) (fun c_2 => ?_) (fun c_2 => ?_)
    · refine lv_iconst (v := nI 0) hx hb dX3_wroteAnything_18 (by decide) ?_
      exact w_zret (v := nI 0) hF hr rfl hlocks hB (⟨rfl, b2i_c0 (by simp [cAny, c_1, c_2] <;> omega)⟩) dX3_wroteAnything_19
    · refine lv_iconst (v := nI 1) hx hb dX3_wroteAnything_14 (by decide) ?_
      refine lv_goto (tgt := 19) hx hb dX3_wroteAnything_15 (by decide) ?_
      exact w_zret (v := nI 1) hF hr rfl hlocks hB (⟨rfl, b2i_c1 (by simp [cAny, c_1, c_2] <;> omega)⟩) dX3_wroteAnything_19
set_option maxHeartbeats 4000000 in
set_option maxRecDepth 100000 in
theorem c_X3_isWithin (l : Launch) (env : Ev) (s0 : Nat) (X : va_W) (u : St) (a0 : Nat) (t : Nat) (ha0 : At u 8 (t) a0) (a1 : Nat) (kq kr : Nat) (ha1 : At u kq kr a1) (hI : SI env u) (hNb : Nb u.2.1) (hq : kq = 6 ∨ kq = 9) : Met l yX3_isWithin [Cond.code yX3_isWithin cX3_isWithin 2 (some .boolean)] { frames := 1, cells := 0, slots := 0, locals := 20 } (va_Pc [.ref (a0), .ref (a1)] (Pr env s0 X u)) (va_Qi (fun r u' => u = u' ∧ r = b2i (cWithin u.2.1 t kq kr)) (Po env s0 X) (fun q => s0 ≤ q)) 0 0 (fun q => s0 ≤ q) := by
  refine Met.ofW (cc := cX3_isWithin) (maxL := 2) (ret := (some .boolean)) (by decide) rfl ?_
  intro p e s m args below meth c s₁ B hml hv
  obtain ⟨rfl, hv⟩ := hv
  have hx := B.exec
  have hb := B.bytes
  have hr := B.returns
  have hts : ∀ ww ∈ TT, ww.before #[.ref (a0), .ref (a1)] s = true := fun ww hw => hv.2.1 ww hw _
  have hown : s.vm.findClass RX3 = some m.cls := findClass_of_methodNamed B.named
  have hlocks := B.notSynchronized
  have hF : CallFix p m c cX3_isWithin 2 s #[.ref (a0), .ref (a1)] TT RX3 := ⟨hx, hb, hml, hown, hts⟩
  have hB := Bd.entry hv
  have hl := lv_entry ([.ref (a0), .ref (a1)]) (n := 2) (Nat.le_of_ble_eq_true rfl)
  rw [lg_entry_eq]
  generalize (lg_sl ([.ref (a0), .ref (a1)]) ++ List.replicate (2 - (lg_sl ([.ref (a0), .ref (a1)])).length) Slot.unset).toArray = ls at hl ⊢
  have hl : lv_has ls 2 [(0, .ref (a0)), (1, .ref (a1))] := hl
  have he : cn env u kq kr = .inl (env.2.1 0, 4, .inl (fun j => nI (gN u.2.1 kq kr j))) := by rcases hq with rfl | rfl <;> rfl
  refine lv_aload_n hx hb dX3_isWithin_0 rfl (lv_at hl 0 rfl) ?_
  refine w_ci (r_V (As := []) (rest := []) hF hB (c_X3_hasCommit l env s0 X u (a0) (t) (ha0) hNb) cv_X3_hasCommit tw_2_75 ⟨rfl, rfl, by decide, by decide⟩ (hB.recv ha0 (cn_8 env u (t)) rfl) rfl hl.1 rfl (lv_room (by decide)) dX3_isWithin_1 ⟨Nat.le_of_ble_eq_true rfl, Nat.le_of_ble_eq_true rfl⟩) hB (fun r_1 u_3 H locs hq_2 hB => ?_)
  obtain ⟨rfl, rfl⟩ := hq_2
  refine w_ifeq_b (tgt := 27) hx hb dX3_isWithin_4 (by decide) (fun c_4 => ?_) (fun c_4 => ?_)
  · refine lv_iconst (v := nI 0) hx hb dX3_isWithin_27 (by decide) ?_
    exact w_zret (v := nI 0) hF hr rfl hlocks hB (⟨rfl, b2i_c0 (by simp [cWithin, c_4] <;> omega)⟩) dX3_isWithin_28
  · refine lv_aload_n hx hb dX3_isWithin_7 rfl (lv_at hl 0 rfl) ?_
    refine w_get (v := .int (nI (gN u.2.1 17 (t) (0)))) (fk := 10) hF hB ha0 (cn_8 env u (t)) rfl in_X3 (by decide) tw_1_237 rfl rfl dX3_isWithin_8 ?_
    refine lv_aload_n hx hb dX3_isWithin_11 rfl (lv_at hl 1 rfl) ?_
    refine lv_aload_n hx hb dX3_isWithin_12 rfl (lv_at hl 0 rfl) ?_
    refine w_get (v := .ref (sA u 5 (gN u.2.1 26 (t) 0))) (fk := 1) hF hB ha0 (cn_8 env u (t)) rfl in_X3 (by decide) tw_1_215 rfl rfl dX3_isWithin_13 ?_
    refine w_getN (v := .int (nI (gN u.2.1 26 (t) 0))) (fk := 0) hF hB ⟨(hI.k5 (hI.tx ha0.1).2), rfl⟩ (cn_5 env u (gN u.2.1 26 (t) 0)) rfl in_X1 (by decide) tw_1_63 rfl rfl dX3_isWithin_16 ?_
    refine w_iald (v := .int (nI (gN u.2.1 kq kr (gN u.2.1 26 (t) 0)))) hF hB ha1 he (hI.tx ha0.1).2 rfl (by decide) dX3_isWithin_19 ?_
    refine w_icgt_n (tgt := 27) (by have := hNb 17 (t) (0); omega) (by have := hNb kq kr (gN u.2.1 26 (t) 0); have := hNb 26 (t) 0; omega) hx hb dX3_isWithin_20 (by decide) (fun c_5 => ?_) (fun c_5 => ?_)
    · refine lv_iconst (v := nI 0) hx hb dX3_isWithin_27 (by decide) ?_
      exact w_zret (v := nI 0) hF hr rfl hlocks hB (⟨rfl, b2i_c0 (by simp [cWithin, c_4, c_5] <;> omega)⟩) dX3_isWithin_28
    · refine lv_iconst (v := nI 1) hx hb dX3_isWithin_23 (by decide) ?_
      refine lv_goto (tgt := 28) hx hb dX3_isWithin_24 (by decide) ?_
      exact w_zret (v := nI 1) hF hr rfl hlocks hB (⟨rfl, b2i_c1 (by simp [cWithin, c_4, c_5] <;> omega)⟩) dX3_isWithin_28
set_option maxHeartbeats 4000000 in
set_option maxRecDepth 100000 in
theorem c_X4_findSite (l : Launch) (env : Ev) (s0 : Nat) (X : va_W) (u : St) (a0 : Nat) (_xa0 : Nat) (ha0 : At u 0 (0) a0) (v : Int32) (hI : SI env u) (hNb : Nb u.2.1) : Met l yX4_findSite [Cond.code yX4_findSite cX4_findSite 2 (some (.object "FarStore$Site"))] { frames := 0, cells := 0, slots := 0, locals := 0 } (va_Pc [.ref (a0), .int (v)] (Pr env s0 X u)) (va_Qq (fun r u' => u = u' ∧ r = (ix v (gN u.2.1 0 0 0)).map (sA u 5)) (Po env s0 X) (fun q => s0 ≤ q)) 0 0 (fun q => s0 ≤ q) := by
  refine Met.ofW (cc := cX4_findSite) (maxL := 2) (ret := (some (.object "FarStore$Site"))) (by decide) rfl ?_
  intro p e s m args below meth c s₁ B hml hv
  obtain ⟨rfl, hv⟩ := hv
  have hx := B.exec
  have hb := B.bytes
  have hr := B.returns
  have hts : ∀ ww ∈ TT, ww.before #[.ref (a0), .int (v)] s = true := fun ww hw => hv.2.1 ww hw _
  have hown : s.vm.findClass RX4 = some m.cls := findClass_of_methodNamed B.named
  have hlocks := B.notSynchronized
  have hF : CallFix p m c cX4_findSite 2 s #[.ref (a0), .int (v)] TT RX4 := ⟨hx, hb, hml, hown, hts⟩
  have hB := Bd.entry hv
  have hl := lv_entry ([.ref (a0), .int (v)]) (n := 2) (Nat.le_of_ble_eq_true rfl)
  rw [lg_entry_eq]
  generalize (lg_sl ([.ref (a0), .int (v)]) ++ List.replicate (2 - (lg_sl ([.ref (a0), .int (v)])).length) Slot.unset).toArray = ls at hl ⊢
  have hl : lv_has ls 2 [(0, .ref (a0)), (1, .int (v))] := hl
  have hn4 := hI.nst
  refine lv_iload_n hx hb dX4_findSite_0 rfl (lv_at hl 1 rfl) ?_
  refine lv_if_lt (tgt := 21) hx hb dX4_findSite_1 (by decide) (fun c_1 => ?_) (fun c_1 => ?_)
  · refine lv_null hx hb dX4_findSite_21 ?_
    exact w_aret (r := none) rfl hF hr (by first | exact Or.inl ⟨_, rfl⟩ | exact Or.inr ⟨_, rfl⟩) hlocks hB (⟨rfl, by rw [ix_lt c_1]; rfl⟩) dX4_findSite_22
  · refine lv_iload_n hx hb dX4_findSite_4 rfl (lv_at hl 1 rfl) ?_
    refine lv_aload_n hx hb dX4_findSite_5 rfl (lv_at hl 0 rfl) ?_
    refine w_get (v := .int (nI (gN u.2.1 0 (0) (0)))) (fk := 1) hF hB ha0 (cn_0 env u (0)) rfl in_X4 (by decide) tw_1_82 rfl rfl dX4_findSite_6 ?_
    refine lv_icmp_ge (tgt := 21) hx hb dX4_findSite_9 (by decide) (fun c_2 => ?_) (fun c_2 => ?_)
    · refine lv_null hx hb dX4_findSite_21 ?_
      exact w_aret (r := none) rfl hF hr (by first | exact Or.inl ⟨_, rfl⟩ | exact Or.inr ⟨_, rfl⟩) hlocks hB (⟨rfl, by rw [ix_ge (by have := hNb 0 0 0; omega) c_2]; rfl⟩) dX4_findSite_22
    · obtain ⟨j_3, hjl_4, rfl⟩ := ix_in (by have := hNb 0 0 0; omega) c_1 c_2
      refine lv_aload_n hx hb dX4_findSite_12 rfl (lv_at hl 0 rfl) ?_
      refine w_get (v := .ref (sA u 1 (0))) (fk := 0) hF hB ha0 (cn_0 env u (0)) rfl in_X4 (by decide) tw_1_81 rfl rfl dX4_findSite_13 ?_
      refine lv_iload_n hx hb dX4_findSite_16 rfl (lv_at hl 1 rfl) ?_
      refine w_aldS hF hB ⟨hI.k1, rfl⟩ (cn_1 env u (0)) (by omega) rfl (by decide) dX4_findSite_17 ?_
      refine lv_goto (tgt := 22) hx hb dX4_findSite_18 (by decide) ?_
      exact w_aret (r := some (sA u 5 (j_3))) rfl hF hr (by first | exact Or.inl ⟨_, rfl⟩ | exact Or.inr ⟨_, rfl⟩) hlocks hB (⟨rfl, by rw [ix_nI (by have := hNb 0 0 0; omega) hjl_4]; rfl⟩) dX4_findSite_22

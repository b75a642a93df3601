set_option maxHeartbeats 4000000 in
set_option maxRecDepth 100000 in
theorem c_Jx4a65c_size_8abf5 (l : Launch) (env : Ev) (s0 : Nat) (X : va_W) (u : St) (a0 : Nat) (i : Nat) (ha0 : At u 2 (i) a0)  : Met l yJx4a65c_size_8abf5 [Cond.code yJx4a65c_size_8abf5 cJx4a65c_size_8abf5 1 (some .int)] { frames := 0, cells := 0, slots := 0, locals := 0 } (va_Pc [.ref (a0)] (Pr env s0 X u)) (va_Qi (fun r u' => u = u' ∧ r = nI (gN u.2.1 3 i 0)) (Po env s0 X) (fun q => s0 ≤ q)) 0 0 (fun q => s0 ≤ q) := by
  refine Met.ofW (cc := cJx4a65c_size_8abf5) (maxL := 1) (ret := (some .int)) (by decide) rfl ?_
  intro p e s m args below meth c s₁ B hml hv
  obtain ⟨rfl, hv⟩ := hv
  have hx := B.exec
  have hb := B.bytes
  have hr := B.returns
  have hts : ∀ ww ∈ TT, ww.before #[.ref (a0)] s = true := fun ww hw => hv.2.1 ww hw _
  have hown : s.vm.findClass RJx4a65c = some m.cls := findClass_of_methodNamed B.named
  have hlocks := B.notSynchronized
  have hF : CallFix p m c cJx4a65c_size_8abf5 1 s #[.ref (a0)] TT RJx4a65c := ⟨hx, hb, hml, hown, hts⟩
  have hB := Bd.entry hv
  have hl := lv_entry ([.ref (a0)]) (n := 1) (Nat.le_of_ble_eq_true rfl)
  rw [lg_entry_eq]
  generalize (lg_sl ([.ref (a0)]) ++ List.replicate (1 - (lg_sl ([.ref (a0)])).length) Slot.unset).toArray = ls at hl ⊢
  have hl : lv_has ls 1 [(0, .ref (a0))] := hl
  refine lv_aload_n hx hb dJx4a65c_size_8abf5_0 rfl (lv_at hl 0 rfl) ?_
  refine w_get (v := .int (nI (gN u.2.1 3 (i) (0)))) (fk := 2) hF hB ha0 (cn_2 env u (i)) rfl in_AL (by decide) tw_1_41 rfl rfl dJx4a65c_size_8abf5_1 ?_
  exact w_iret (v := nI (gN u.2.1 3 (i) (0))) hF hr hlocks hB (⟨rfl, rfl⟩) dJx4a65c_size_8abf5_4
set_option maxHeartbeats 4000000 in
set_option maxRecDepth 100000 in
theorem c_Jx4a65c_isEmpty_aae02 (l : Launch) (env : Ev) (s0 : Nat) (X : va_W) (u : St) (a0 : Nat) (i : Nat) (ha0 : At u 2 (i) a0) (hNb : Nb u.2.1) : Met l yJx4a65c_isEmpty_aae02 [Cond.code yJx4a65c_isEmpty_aae02 cJx4a65c_isEmpty_aae02 1 (some .boolean)] { frames := 0, cells := 0, slots := 0, locals := 0 } (va_Pc [.ref (a0)] (Pr env s0 X u)) (va_Qi (fun r u' => u = u' ∧ r = b2i (decide (gN u.2.1 3 i 0 = 0))) (Po env s0 X) (fun q => s0 ≤ q)) 0 0 (fun q => s0 ≤ q) := by
  refine Met.ofW (cc := cJx4a65c_isEmpty_aae02) (maxL := 1) (ret := (some .boolean)) (by decide) rfl ?_
  intro p e s m args below meth c s₁ B hml hv
  obtain ⟨rfl, hv⟩ := hv
  have hx := B.exec
  have hb := B.bytes
  have hr := B.returns
  have hts : ∀ ww ∈ TT, ww.before #[.ref (a0)] s = true := fun ww hw => hv.2.1 ww hw _
  have hown : s.vm.findClass RJx4a65c = some m.cls := findClass_of_methodNamed B.named
  have hlocks := B.notSynchronized
  have hF : CallFix p m c cJx4a65c_isEmpty_aae02 1 s #[.ref (a0)] TT RJx4a65c := ⟨hx, hb, hml, hown, hts⟩
  have hB := Bd.entry hv
  have hl := lv_entry ([.ref (a0)]) (n := 1) (Nat.le_of_ble_eq_true rfl)
  rw [lg_entry_eq]
  generalize (lg_sl ([.ref (a0)]) ++ List.replicate (1 - (lg_sl ([.ref (a0)])).length) Slot.unset).toArray = ls at hl ⊢
  have hl : lv_has ls 1 [(0, .ref (a0))] := hl
  refine lv_aload_n hx hb dJx4a65c_isEmpty_aae02_0 rfl (lv_at hl 0 rfl) ?_
  refine w_get (v := .int (nI (gN u.2.1 3 (i) (0)))) (fk := 2) hF hB ha0 (cn_2 env u (i)) rfl in_AL (by decide) tw_1_41 rfl rfl dJx4a65c_isEmpty_aae02_1 ?_
  refine w_ifne_n (tgt := 11) (by have := hNb 3 (i) (0); omega) hx hb dJx4a65c_isEmpty_aae02_4 (by decide) (fun c_1 => ?_) (fun c_1 => ?_)
  · refine lv_iconst (v := nI 0) hx hb dJx4a65c_isEmpty_aae02_11 (by decide) ?_
    exact w_zret (v := nI 0) hF hr rfl hlocks hB (⟨rfl, by simp [c_1]; rfl⟩) dJx4a65c_isEmpty_aae02_12
  · refine lv_iconst (v := nI 1) hx hb dJx4a65c_isEmpty_aae02_7 (by decide) ?_
    refine lv_goto (tgt := 12) hx hb dJx4a65c_isEmpty_aae02_8 (by decide) ?_
    exact w_zret (v := nI 1) hF hr rfl hlocks hB (⟨rfl, by simp [c_1]; rfl⟩) dJx4a65c_isEmpty_aae02_12
set_option maxHeartbeats 4000000 in
set_option maxRecDepth 100000 in
theorem c_J3_checkIndex_8e157 (l : Launch) (env : Ev) (s0 : Nat) (X : va_W) (u : St) (j : Nat) (n : Nat) (hj : j < n) (hn : n < 2 ^ 31) : Met l yJ3_checkIndex_8e157 [Cond.code yJ3_checkIndex_8e157 cJ3_checkIndex_8e157 3 (some .int)] { frames := 0, cells := 0, slots := 0, locals := 0 } (va_Pc [.int (nI (j)), .int (nI (n)), .null] (Pr env s0 X u)) (va_Qi (fun r u' => u = u' ∧ r = nI j) (Po env s0 X) (fun q => s0 ≤ q)) 0 0 (fun q => s0 ≤ q) := by
  refine Met.ofW (cc := cJ3_checkIndex_8e157) (maxL := 3) (ret := (some .int)) (by decide) rfl ?_
  intro p e s m args below meth c s₁ B hml hv
  obtain ⟨rfl, hv⟩ := hv
  have hx := B.exec
  have hb := B.bytes
  have hr := B.returns
  have hts : ∀ ww ∈ TT, ww.before #[.int (nI (j)), .int (nI (n)), .null] s = true := fun ww hw => hv.2.1 ww hw _
  have hown : s.vm.findClass RJ3 = some m.cls := findClass_of_methodNamed B.named
  have hlocks := B.notSynchronized
  have hF : CallFix p m c cJ3_checkIndex_8e157 3 s #[.int (nI (j)), .int (nI (n)), .null] TT RJ3 := ⟨hx, hb, hml, hown, hts⟩
  have hB := Bd.entry hv
  have hl := lv_entry ([.int (nI (j)), .int (nI (n)), .null]) (n := 3) (Nat.le_of_ble_eq_true rfl)
  rw [lg_entry_eq]
  generalize (lg_sl ([.int (nI (j)), .int (nI (n)), .null]) ++ List.replicate (3 - (lg_sl ([.int (nI (j)), .int (nI (n)), .null])).length) Slot.unset).toArray = ls at hl ⊢
  have hl : lv_has ls 3 [(0, .int (nI (j))), (1, .int (nI (n))), (2, .null)] := hl
  refine lv_iload_n hx hb dJ3_checkIndex_8e157_0 rfl (lv_at hl 0 rfl) ?_
  refine w_iflt_n (tgt := 9) (by omega) hx hb dJ3_checkIndex_8e157_1 (by decide) ?_
  refine lv_iload_n hx hb dJ3_checkIndex_8e157_4 rfl (lv_at hl 0 rfl) ?_
  refine lv_iload_n hx hb dJ3_checkIndex_8e157_5 rfl (lv_at hl 1 rfl) ?_
  refine w_iclt_n (tgt := 16) (by omega) (by omega) hx hb dJ3_checkIndex_8e157_6 (by decide) (fun c_1 => ?_) (fun c_1 => ?_)
  · refine lv_iload_n hx hb dJ3_checkIndex_8e157_16 rfl (lv_at hl 0 rfl) ?_
    exact w_iret (v := nI j) hF hr hlocks hB (⟨rfl, rfl⟩) dJ3_checkIndex_8e157_17
  · exact absurd c_1 (by omega)
set_option maxHeartbeats 4000000 in
set_option maxRecDepth 100000 in
theorem c_J15_checkIndex_7cf53 (l : Launch) (env : Ev) (s0 : Nat) (X : va_W) (u : St) (j : Nat) (n : Nat) (hj : j < n) (hn : n < 2 ^ 31) : Met l yJ15_checkIndex_7cf53 [Cond.code yJ15_checkIndex_7cf53 cJ15_checkIndex_7cf53 2 (some .int)] { frames := 1, cells := 0, slots := 0, locals := 22 } (va_Pc [.int (nI (j)), .int (nI (n))] (Pr env s0 X u)) (va_Qi (fun r u' => u = u' ∧ r = nI j) (Po env s0 X) (fun q => s0 ≤ q)) 0 0 (fun q => s0 ≤ q) := by
  refine Met.ofW (cc := cJ15_checkIndex_7cf53) (maxL := 2) (ret := (some .int)) (by decide) rfl ?_
  intro p e s m args below meth c s₁ B hml hv
  obtain ⟨rfl, hv⟩ := hv
  have hx := B.exec
  have hb := B.bytes
  have hr := B.returns
  have hts : ∀ ww ∈ TT, ww.before #[.int (nI (j)), .int (nI (n))] s = true := fun ww hw => hv.2.1 ww hw _
  have hown : s.vm.findClass RJ15 = some m.cls := findClass_of_methodNamed B.named
  have hlocks := B.notSynchronized
  have hF : CallFix p m c cJ15_checkIndex_7cf53 2 s #[.int (nI (j)), .int (nI (n))] TT RJ15 := ⟨hx, hb, hml, hown, hts⟩
  have hB := Bd.entry hv
  have hl := lv_entry ([.int (nI (j)), .int (nI (n))]) (n := 2) (Nat.le_of_ble_eq_true rfl)
  rw [lg_entry_eq]
  generalize (lg_sl ([.int (nI (j)), .int (nI (n))]) ++ List.replicate (2 - (lg_sl ([.int (nI (j)), .int (nI (n))])).length) Slot.unset).toArray = ls at hl ⊢
  have hl : lv_has ls 2 [(0, .int (nI (j))), (1, .int (nI (n)))] := hl
  refine lv_iload_n hx hb dJ15_checkIndex_7cf53_0 rfl (lv_at hl 0 rfl) ?_
  refine lv_iload_n hx hb dJ15_checkIndex_7cf53_1 rfl (lv_at hl 1 rfl) ?_
  refine lv_null hx hb dJ15_checkIndex_7cf53_2 ?_
  refine w_ci (r_S (As := [.int (nI (j)), .int (nI (n)), .null]) (rest := []) hF hB (c_J3_checkIndex_8e157 l env s0 X u (j) (n) (by omega) (by omega)) cs_J3_checkIndex_8e157 tw_2_49 ⟨rfl, rfl, by decide, by decide⟩ rfl hl.1 rfl (lv_room (by decide)) dJ15_checkIndex_7cf53_3 ⟨Nat.le_of_ble_eq_true rfl, Nat.le_of_ble_eq_true rfl⟩) hB (fun r_1 u_3 H locs hq_2 hB => ?_)
  obtain ⟨rfl, rfl⟩ := hq_2
  exact w_iret (v := nI j) hF hr hlocks hB (⟨rfl, rfl⟩) dJ15_checkIndex_7cf53_6
set_option maxHeartbeats 4000000 in
set_option maxRecDepth 100000 in
theorem c_Jx4a65c_elementData_915e3 (l : Launch) (env : Ev) (s0 : Nat) (X : va_W) (u : St) (a0 : Nat) (i : Nat) (ha0 : At u 2 (i) a0) (j : Nat) (h3 : (3, sM u 2 i) ∈ sK u) (hj : j < sM u 0 (sM u 2 i)) (hc : sM u 0 (sM u 2 i) ≤ 4096) : Met l yJx4a65c_elementData_915e3 [Cond.code yJx4a65c_elementData_915e3 cJx4a65c_elementData_915e3 2 (some (.object "java/lang/Object"))] { frames := 0, cells := 0, slots := 0, locals := 0 } (va_Pc [.ref (a0), .int (nI (j))] (Pr env s0 X u)) (va_Qq (fun r u' => u = u' ∧ r = sE u (sM u 2 i) j) (Po env s0 X) (fun q => s0 ≤ q)) 0 0 (fun q => s0 ≤ q) := by
  refine Met.ofW (cc := cJx4a65c_elementData_915e3) (maxL := 2) (ret := (some (.object "java/lang/Object"))) (by decide) rfl ?_
  intro p e s m args below meth c s₁ B hml hv
  obtain ⟨rfl, hv⟩ := hv
  have hx := B.exec
  have hb := B.bytes
  have hr := B.returns
  have hts : ∀ ww ∈ TT, ww.before #[.ref (a0), .int (nI (j))] s = true := fun ww hw => hv.2.1 ww hw _
  have hown : s.vm.findClass RJx4a65c = some m.cls := findClass_of_methodNamed B.named
  have hlocks := B.notSynchronized
  have hF : CallFix p m c cJx4a65c_elementData_915e3 2 s #[.ref (a0), .int (nI (j))] TT RJx4a65c := ⟨hx, hb, hml, hown, hts⟩
  have hB := Bd.entry hv
  have hl := lv_entry ([.ref (a0), .int (nI (j))]) (n := 2) (Nat.le_of_ble_eq_true rfl)
  rw [lg_entry_eq]
  generalize (lg_sl ([.ref (a0), .int (nI (j))]) ++ List.replicate (2 - (lg_sl ([.ref (a0), .int (nI (j))])).length) Slot.unset).toArray = ls at hl ⊢
  have hl : lv_has ls 2 [(0, .ref (a0)), (1, .int (nI (j)))] := hl
  refine lv_aload_n hx hb dJx4a65c_elementData_915e3_0 rfl (lv_at hl 0 rfl) ?_
  refine w_get (v := .ref (sA u 3 (sM u 2 (i)))) (fk := 1) hF hB ha0 (cn_2 env u (i)) rfl in_AL (by decide) tw_1_40 rfl rfl dJx4a65c_elementData_915e3_1 ?_
  refine lv_iload_n hx hb dJx4a65c_elementData_915e3_4 rfl (lv_at hl 1 rfl) ?_
  refine w_aldO hF hB ⟨h3, rfl⟩ (cn_3 env u (sM u 2 (i))) hj rfl (by omega) dJx4a65c_elementData_915e3_5 ?_
  exact w_aret (r := sE u (sM u 2 (i)) (j)) rfl hF hr (by first | exact Or.inl ⟨_, rfl⟩ | exact Or.inr ⟨_, rfl⟩) hlocks hB (⟨rfl, rfl⟩) dJx4a65c_elementData_915e3_6
set_option maxHeartbeats 4000000 in
set_option maxRecDepth 100000 in
theorem c_Jx4a65c_get_915e3 (l : Launch) (env : Ev) (s0 : Nat) (X : va_W) (u : St) (a0 : Nat) (i : Nat) (ha0 : At u 2 (i) a0) (j : Nat) (hNb : Nb u.2.1) (h3 : (3, sM u 2 i) ∈ sK u) (hj : j < gN u.2.1 3 i 0) (hj2 : gN u.2.1 3 i 0 ≤ sM u 0 (sM u 2 i)) (hc : sM u 0 (sM u 2 i) ≤ 4096) : Met l yJx4a65c_get_915e3 [Cond.code yJx4a65c_get_915e3 cJx4a65c_get_915e3 2 (some (.object "java/lang/Object"))] { frames := 2, cells := 0, slots := 0, locals := 43 } (va_Pc [.ref (a0), .int (nI (j))] (Pr env s0 X u)) (va_Qq (fun r u' => u = u' ∧ r = sE u (sM u 2 i) j) (Po env s0 X) (fun q => s0 ≤ q)) 0 0 (fun q => s0 ≤ q) := by
  refine Met.ofW (cc := cJx4a65c_get_915e3) (maxL := 2) (ret := (some (.object "java/lang/Object"))) (by decide) rfl ?_
  intro p e s m args below meth c s₁ B hml hv
  obtain ⟨rfl, hv⟩ := hv
  have hx := B.exec
  have hb := B.bytes
  have hr := B.returns
  have hts : ∀ ww ∈ TT, ww.before #[.ref (a0), .int (nI (j))] s = true := fun ww hw => hv.2.1 ww hw _
  have hown : s.vm.findClass RJx4a65c = some m.cls := findClass_of_methodNamed B.named
  have hlocks := B.notSynchronized
  have hF : CallFix p m c cJx4a65c_get_915e3 2 s #[.ref (a0), .int (nI (j))] TT RJx4a65c := ⟨hx, hb, hml, hown, hts⟩
  have hB := Bd.entry hv
  have hl := lv_entry ([.ref (a0), .int (nI (j))]) (n := 2) (Nat.le_of_ble_eq_true rfl)
  rw [lg_entry_eq]
  generalize (lg_sl ([.ref (a0), .int (nI (j))]) ++ List.replicate (2 - (lg_sl ([.ref (a0), .int (nI (j))])).length) Slot.unset).toArray = ls at hl ⊢
  have hl : lv_has ls 2 [(0, .ref (a0)), (1, .int (nI (j)))] := hl
  refine lv_iload_n hx hb dJx4a65c_get_915e3_0 rfl (lv_at hl 1 rfl) ?_
  refine lv_aload_n hx hb dJx4a65c_get_915e3_1 rfl (lv_at hl 0 rfl) ?_
  refine w_get (v := .int (nI (gN u.2.1 3 (i) (0)))) (fk := 2) hF hB ha0 (cn_2 env u (i)) rfl in_AL (by decide) tw_1_41 rfl rfl dJx4a65c_get_915e3_2 ?_
  refine w_ci (r_S (As := [.int (nI (j)), .int (nI (gN u.2.1 3 (i) (0)))]) (rest := []) hF hB (c_J15_checkIndex_7cf53 l env s0 X u (j) (gN u.2.1 3 (i) (0)) hj (by have := hNb 3 i 0; omega)) cs_J15_checkIndex_7cf53 tw_2_46 ⟨rfl, rfl, by decide, by decide⟩ rfl hl.1 rfl (lv_room (by decide)) dJx4a65c_get_915e3_5 ⟨Nat.le_of_ble_eq_true rfl, Nat.le_of_ble_eq_true rfl⟩) hB (fun r_1 u_3 H locs hq_2 hB => ?_)
  obtain ⟨rfl, rfl⟩ := hq_2
  refine lv_pop hx hb dJx4a65c_get_915e3_8 rfl ?_
  refine lv_aload_n hx hb dJx4a65c_get_915e3_9 rfl (lv_at hl 0 rfl) ?_
  refine lv_iload_n hx hb dJx4a65c_get_915e3_10 rfl (lv_at hl 1 rfl) ?_
  refine w_cq (r_V (As := [.int (nI (j))]) (rest := []) hF hB (c_Jx4a65c_elementData_915e3 l env s0 X u (a0) (i) (ha0) (j) h3 (by omega) hc) cv_Jx4a65c_elementData_915e3 tw_2_52 ⟨rfl, rfl, by decide, by decide⟩ (hB.recv ha0 (cn_2 env u (i)) rfl) rfl hl.1 rfl (lv_room (by decide)) dJx4a65c_get_915e3_11 ⟨Nat.le_of_ble_eq_true rfl, Nat.le_of_ble_eq_true rfl⟩) hB (fun r_4 u_6 H locs hq_5 hB => ?_)
  obtain ⟨rfl, rfl⟩ := hq_5
  exact w_aret (r := sE u (sM u 2 (i)) (j)) rfl hF hr (by first | exact Or.inl ⟨_, rfl⟩ | exact Or.inr ⟨_, rfl⟩) hlocks hB (⟨rfl, rfl⟩) dJx4a65c_get_915e3_14

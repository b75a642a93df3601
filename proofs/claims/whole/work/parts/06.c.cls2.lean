set_option maxHeartbeats 4000000 in
set_option maxRecDepth 100000 in
theorem c_X4_findThing (l : Launch) (env : Ev) (s0 : Nat) (X : va_W) (u : St) (a0 : Nat) (_xa0 : Nat) (ha0 : At u 0 (0) a0) (v : Int32) (hI : SI env u) (hNb : Nb u.2.1) : Met l yX4_findThing [Cond.code yX4_findThing cX4_findThing 2 (some (.object "FarStore$Thing"))] { frames := 3, cells := 0, slots := 0, locals := 64 } (va_Pc [.ref (a0), .int (v)] (Pr env s0 X u)) (va_Qq (fun r u' => u = u' ∧ r = (ix v (gN u.2.1 3 0 0)).map (sA u 4)) (Po env s0 X) (fun q => s0 ≤ q)) 0 0 (fun q => s0 ≤ q) := by
  refine Met.ofW (cc := cX4_findThing) (maxL := 2) (ret := (some (.object "FarStore$Thing"))) (by decide) rfl ?_
  intro p e s m args below meth c s₁ B hml hv
  obtain ⟨rfl, hv⟩ := hv
  have hx := B.exec
  have hb := B.bytes
  have hr := B.returns
  have hts : ∀ ww ∈ TT, ww.before #[.ref (a0), .int (v)] s = true := fun ww hw => hv.2.1 ww hw _
  have hown : s.vm.findClass RX4 = some m.cls := findClass_of_methodNamed B.named
  have hlocks := B.notSynchronized
  have hF : CallFix p m c cX4_findThing 2 s #[.ref (a0), .int (v)] TT RX4 := ⟨hx, hb, hml, hown, hts⟩
  have hB := Bd.entry hv
  have hl := lv_entry ([.ref (a0), .int (v)]) (n := 2) (Nat.le_of_ble_eq_true rfl)
  rw [lg_entry_eq]
  generalize (lg_sl ([.ref (a0), .int (v)]) ++ List.replicate (2 - (lg_sl ([.ref (a0), .int (v)])).length) Slot.unset).toArray = ls at hl ⊢
  have hl : lv_has ls 2 [(0, .ref (a0)), (1, .int (v))] := hl
  refine lv_iload_n hx hb dX4_findThing_0 rfl (lv_at hl 1 rfl) ?_
  refine lv_if_lt (tgt := 29) hx hb dX4_findThing_1 (by decide) (fun c_1 => ?_) (fun c_1 => ?_)
  · refine lv_null hx hb dX4_findThing_29 ?_
    exact w_aret (r := none) rfl hF hr (by first | exact Or.inl ⟨_, rfl⟩ | exact Or.inr ⟨_, rfl⟩) hlocks hB (⟨rfl, by rw [ix_lt c_1]; rfl⟩) dX4_findThing_30
  · refine lv_iload_n hx hb dX4_findThing_4 rfl (lv_at hl 1 rfl) ?_
    refine lv_aload_n hx hb dX4_findThing_5 rfl (lv_at hl 0 rfl) ?_
    refine w_get (v := .ref (sA u 2 (0))) (fk := 3) hF hB ha0 (cn_0 env u (0)) rfl in_X4 (by decide) tw_1_84 rfl rfl dX4_findThing_6 ?_
    refine w_ci (r_V (As := []) (rest := [.int (v)]) hF hB (c_Jx4a65c_size_8abf5 l env s0 X u (sA u 2 (0)) (0) (⟨(hI.k2 (by decide)), rfl⟩) ) cv_Jx4a65c_size_8abf5 tw_1_116 ⟨rfl, rfl, by decide, by decide⟩ (hB.recv ⟨(hI.k2 (by decide)), rfl⟩ (cn_2 env u (0)) rfl) rfl hl.1 rfl (lv_room (Nat.le_of_ble_eq_true rfl)) dX4_findThing_9 ⟨Nat.le_of_ble_eq_true rfl, Nat.le_of_ble_eq_true rfl⟩) hB (fun r_2 u_4 H locs hq_3 hB => ?_)
    obtain ⟨rfl, rfl⟩ := hq_3
    refine lv_icmp_ge (tgt := 29) hx hb dX4_findThing_12 (by decide) (fun c_5 => ?_) (fun c_5 => ?_)
    · refine lv_null hx hb dX4_findThing_29 ?_
      exact w_aret (r := none) rfl hF hr (by first | exact Or.inl ⟨_, rfl⟩ | exact Or.inr ⟨_, rfl⟩) hlocks hB (⟨rfl, by rw [ix_ge (by have := hNb 3 0 0; omega) c_5]; rfl⟩) dX4_findThing_30
    · obtain ⟨j_6, hjl_7, rfl⟩ := ix_in (by have := hNb 3 0 0; omega) c_1 c_5
      refine lv_aload_n hx hb dX4_findThing_15 rfl (lv_at hl 0 rfl) ?_
      refine w_get (v := .ref (sA u 2 (0))) (fk := 3) hF hB ha0 (cn_0 env u (0)) rfl in_X4 (by decide) tw_1_84 rfl rfl dX4_findThing_16 ?_
      refine lv_iload_n hx hb dX4_findThing_19 rfl (lv_at hl 1 rfl) ?_
      refine w_cq (r_V (As := [.int (nI (j_6))]) (rest := []) hF hB (c_Jx4a65c_get_915e3 l env s0 X u (sA u 2 (0)) (0) (⟨(hI.k2 (by decide)), rfl⟩) (j_6) hNb (hI.get (by decide) hjl_7).1 hjl_7 (hI.get (by decide) hjl_7).2.1 (hI.get (by decide) hjl_7).2.2) cv_Jx4a65c_get_915e3 tw_2_42 ⟨rfl, rfl, by decide, by decide⟩ (hB.recv ⟨(hI.k2 (by decide)), rfl⟩ (cn_2 env u (0)) rfl) rfl hl.1 rfl (lv_room (by decide)) dX4_findThing_20 ⟨Nat.le_of_ble_eq_true rfl, Nat.le_of_ble_eq_true rfl⟩) hB (fun r_8 u_10 H locs hq_9 hB => ?_)
      obtain ⟨rfl, rfl⟩ := hq_9
      rw [hI.e0 hjl_7]
      show W p l e _ s m _ below meth c H locs _ _ _ (F0 m _ ls [.ref (sA u 4 (j_6))])
      refine w_cast hF hB tw_1_120 tw_4_105 (hB.recv ⟨(hI.k4 hjl_7), rfl⟩ (cn_4 env u (j_6)) rfl) dX4_findThing_23 ?_
      refine lv_goto (tgt := 30) hx hb dX4_findThing_26 (by decide) ?_
      exact w_aret (r := some (sA u 4 (j_6))) rfl hF hr (by first | exact Or.inl ⟨_, rfl⟩ | exact Or.inr ⟨_, rfl⟩) hlocks hB (⟨rfl, by rw [ix_nI (by have := hNb 3 0 0; omega) hjl_7]; rfl⟩) dX4_findThing_30
set_option maxHeartbeats 4000000 in
set_option maxRecDepth 100000 in
theorem c_X4_findTransaction (l : Launch) (env : Ev) (s0 : Nat) (X : va_W) (u : St) (a0 : Nat) (_xa0 : Nat) (ha0 : At u 0 (0) a0) (v : Int32) (hI : SI env u) (hNb : Nb u.2.1) : Met l yX4_findTransaction [Cond.code yX4_findTransaction cX4_findTransaction 2 (some (.object "FarStore$Transaction"))] { frames := 3, cells := 0, slots := 0, locals := 64 } (va_Pc [.ref (a0), .int (v)] (Pr env s0 X u)) (va_Qq (fun r u' => u = u' ∧ r = (ix v (gN u.2.1 3 1 0)).map (sA u 8)) (Po env s0 X) (fun q => s0 ≤ q)) 0 0 (fun q => s0 ≤ q) := by
  refine Met.ofW (cc := cX4_findTransaction) (maxL := 2) (ret := (some (.object "FarStore$Transaction"))) (by decide) rfl ?_
  intro p e s m args below meth c s₁ B hml hv
  obtain ⟨rfl, hv⟩ := hv
  have hx := B.exec
  have hb := B.bytes
  have hr := B.returns
  have hts : ∀ ww ∈ TT, ww.before #[.ref (a0), .int (v)] s = true := fun ww hw => hv.2.1 ww hw _
  have hown : s.vm.findClass RX4 = some m.cls := findClass_of_methodNamed B.named
  have hlocks := B.notSynchronized
  have hF : CallFix p m c cX4_findTransaction 2 s #[.ref (a0), .int (v)] TT RX4 := ⟨hx, hb, hml, hown, hts⟩
  have hB := Bd.entry hv
  have hl := lv_entry ([.ref (a0), .int (v)]) (n := 2) (Nat.le_of_ble_eq_true rfl)
  rw [lg_entry_eq]
  generalize (lg_sl ([.ref (a0), .int (v)]) ++ List.replicate (2 - (lg_sl ([.ref (a0), .int (v)])).length) Slot.unset).toArray = ls at hl ⊢
  have hl : lv_has ls 2 [(0, .ref (a0)), (1, .int (v))] := hl
  refine lv_iload_n hx hb dX4_findTransaction_0 rfl (lv_at hl 1 rfl) ?_
  refine lv_if_lt (tgt := 29) hx hb dX4_findTransaction_1 (by decide) (fun c_1 => ?_) (fun c_1 => ?_)
  · refine lv_null hx hb dX4_findTransaction_29 ?_
    exact w_aret (r := none) rfl hF hr (by first | exact Or.inl ⟨_, rfl⟩ | exact Or.inr ⟨_, rfl⟩) hlocks hB (⟨rfl, by rw [ix_lt c_1]; rfl⟩) dX4_findTransaction_30
  · refine lv_iload_n hx hb dX4_findTransaction_4 rfl (lv_at hl 1 rfl) ?_
    refine lv_aload_n hx hb dX4_findTransaction_5 rfl (lv_at hl 0 rfl) ?_
    refine w_get (v := .ref (sA u 2 (1))) (fk := 4) hF hB ha0 (cn_0 env u (0)) rfl in_X4 (by decide) tw_1_85 rfl rfl dX4_findTransaction_6 ?_
    refine w_ci (r_V (As := []) (rest := [.int (v)]) hF hB (c_Jx4a65c_size_8abf5 l env s0 X u (sA u 2 (1)) (1) (⟨(hI.k2 (by decide)), rfl⟩) ) cv_Jx4a65c_size_8abf5 tw_1_116 ⟨rfl, rfl, by decide, by decide⟩ (hB.recv ⟨(hI.k2 (by decide)), rfl⟩ (cn_2 env u (1)) rfl) rfl hl.1 rfl (lv_room (Nat.le_of_ble_eq_true rfl)) dX4_findTransaction_9 ⟨Nat.le_of_ble_eq_true rfl, Nat.le_of_ble_eq_true rfl⟩) hB (fun r_2 u_4 H locs hq_3 hB => ?_)
    obtain ⟨rfl, rfl⟩ := hq_3
    refine lv_icmp_ge (tgt := 29) hx hb dX4_findTransaction_12 (by decide) (fun c_5 => ?_) (fun c_5 => ?_)
    · refine lv_null hx hb dX4_findTransaction_29 ?_
      exact w_aret (r := none) rfl hF hr (by first | exact Or.inl ⟨_, rfl⟩ | exact Or.inr ⟨_, rfl⟩) hlocks hB (⟨rfl, by rw [ix_ge (by have := hNb 3 1 0; omega) c_5]; rfl⟩) dX4_findTransaction_30
    · obtain ⟨j_6, hjl_7, rfl⟩ := ix_in (by have := hNb 3 1 0; omega) c_1 c_5
      refine lv_aload_n hx hb dX4_findTransaction_15 rfl (lv_at hl 0 rfl) ?_
      refine w_get (v := .ref (sA u 2 (1))) (fk := 4) hF hB ha0 (cn_0 env u (0)) rfl in_X4 (by decide) tw_1_85 rfl rfl dX4_findTransaction_16 ?_
      refine lv_iload_n hx hb dX4_findTransaction_19 rfl (lv_at hl 1 rfl) ?_
      refine w_cq (r_V (As := [.int (nI (j_6))]) (rest := []) hF hB (c_Jx4a65c_get_915e3 l env s0 X u (sA u 2 (1)) (1) (⟨(hI.k2 (by decide)), rfl⟩) (j_6) hNb (hI.get (by decide) hjl_7).1 hjl_7 (hI.get (by decide) hjl_7).2.1 (hI.get (by decide) hjl_7).2.2) cv_Jx4a65c_get_915e3 tw_2_42 ⟨rfl, rfl, by decide, by decide⟩ (hB.recv ⟨(hI.k2 (by decide)), rfl⟩ (cn_2 env u (1)) rfl) rfl hl.1 rfl (lv_room (by decide)) dX4_findTransaction_20 ⟨Nat.le_of_ble_eq_true rfl, Nat.le_of_ble_eq_true rfl⟩) hB (fun r_8 u_10 H locs hq_9 hB => ?_)
      obtain ⟨rfl, rfl⟩ := hq_9
      rw [hI.e1 hjl_7]
      show W p l e _ s m _ below meth c H locs _ _ _ (F0 m _ ls [.ref (sA u 8 (j_6))])
      refine w_cast hF hB tw_1_199 tw_4_104 (hB.recv ⟨(hI.k8 hjl_7), rfl⟩ (cn_8 env u (j_6)) rfl) dX4_findTransaction_23 ?_
      refine lv_goto (tgt := 30) hx hb dX4_findTransaction_26 (by decide) ?_
      exact w_aret (r := some (sA u 8 (j_6))) rfl hF hr (by first | exact Or.inl ⟨_, rfl⟩ | exact Or.inr ⟨_, rfl⟩) hlocks hB (⟨rfl, by rw [ix_nI (by have := hNb 3 1 0; omega) hjl_7]; rfl⟩) dX4_findTransaction_30
set_option maxHeartbeats 4000000 in
set_option maxRecDepth 100000 in
theorem c_X4_findMessage (l : Launch) (env : Ev) (s0 : Nat) (X : va_W) (u : St) (a0 : Nat) (_xa0 : Nat) (ha0 : At u 0 (0) a0) (v : Int32) (hI : SI env u) (hNb : Nb u.2.1) : Met l yX4_findMessage [Cond.code yX4_findMessage cX4_findMessage 2 (some (.object "FarStore$Message"))] { frames := 3, cells := 0, slots := 0, locals := 64 } (va_Pc [.ref (a0), .int (v)] (Pr env s0 X u)) (va_Qq (fun r u' => u = u' ∧ r = (ix v (gN u.2.1 3 2 0)).map (fun j => sA u 14 (gN u.2.1 31 0 j))) (Po env s0 X) (fun q => s0 ≤ q)) 0 0 (fun q => s0 ≤ q) := by
  refine Met.ofW (cc := cX4_findMessage) (maxL := 2) (ret := (some (.object "FarStore$Message"))) (by decide) rfl ?_
  intro p e s m args below meth c s₁ B hml hv
  obtain ⟨rfl, hv⟩ := hv
  have hx := B.exec
  have hb := B.bytes
  have hr := B.returns
  have hts : ∀ ww ∈ TT, ww.before #[.ref (a0), .int (v)] s = true := fun ww hw => hv.2.1 ww hw _
  have hown : s.vm.findClass RX4 = some m.cls := findClass_of_methodNamed B.named
  have hlocks := B.notSynchronized
  have hF : CallFix p m c cX4_findMessage 2 s #[.ref (a0), .int (v)] TT RX4 := ⟨hx, hb, hml, hown, hts⟩
  have hB := Bd.entry hv
  have hl := lv_entry ([.ref (a0), .int (v)]) (n := 2) (Nat.le_of_ble_eq_true rfl)
  rw [lg_entry_eq]
  generalize (lg_sl ([.ref (a0), .int (v)]) ++ List.replicate (2 - (lg_sl ([.ref (a0), .int (v)])).length) Slot.unset).toArray = ls at hl ⊢
  have hl : lv_has ls 2 [(0, .ref (a0)), (1, .int (v))] := hl
  refine lv_iload_n hx hb dX4_findMessage_0 rfl (lv_at hl 1 rfl) ?_
  refine lv_if_lt (tgt := 29) hx hb dX4_findMessage_1 (by decide) (fun c_1 => ?_) (fun c_1 => ?_)
  · refine lv_null hx hb dX4_findMessage_29 ?_
    exact w_aret (r := none) rfl hF hr (by first | exact Or.inl ⟨_, rfl⟩ | exact Or.inr ⟨_, rfl⟩) hlocks hB (⟨rfl, by rw [ix_lt c_1]; rfl⟩) dX4_findMessage_30
  · refine lv_iload_n hx hb dX4_findMessage_4 rfl (lv_at hl 1 rfl) ?_
    refine lv_aload_n hx hb dX4_findMessage_5 rfl (lv_at hl 0 rfl) ?_
    refine w_get (v := .ref (sA u 2 (2))) (fk := 5) hF hB ha0 (cn_0 env u (0)) rfl in_X4 (by decide) tw_1_86 rfl rfl dX4_findMessage_6 ?_
    refine w_ci (r_V (As := []) (rest := [.int (v)]) hF hB (c_Jx4a65c_size_8abf5 l env s0 X u (sA u 2 (2)) (2) (⟨(hI.k2 (by decide)), rfl⟩) ) cv_Jx4a65c_size_8abf5 tw_1_116 ⟨rfl, rfl, by decide, by decide⟩ (hB.recv ⟨(hI.k2 (by decide)), rfl⟩ (cn_2 env u (2)) rfl) rfl hl.1 rfl (lv_room (Nat.le_of_ble_eq_true rfl)) dX4_findMessage_9 ⟨Nat.le_of_ble_eq_true rfl, Nat.le_of_ble_eq_true rfl⟩) hB (fun r_2 u_4 H locs hq_3 hB => ?_)
    obtain ⟨rfl, rfl⟩ := hq_3
    refine lv_icmp_ge (tgt := 29) hx hb dX4_findMessage_12 (by decide) (fun c_5 => ?_) (fun c_5 => ?_)
    · refine lv_null hx hb dX4_findMessage_29 ?_
      exact w_aret (r := none) rfl hF hr (by first | exact Or.inl ⟨_, rfl⟩ | exact Or.inr ⟨_, rfl⟩) hlocks hB (⟨rfl, by rw [ix_ge (by have := hNb 3 2 0; omega) c_5]; rfl⟩) dX4_findMessage_30
    · obtain ⟨j_6, hjl_7, rfl⟩ := ix_in (by have := hNb 3 2 0; omega) c_1 c_5
      refine lv_aload_n hx hb dX4_findMessage_15 rfl (lv_at hl 0 rfl) ?_
      refine w_get (v := .ref (sA u 2 (2))) (fk := 5) hF hB ha0 (cn_0 env u (0)) rfl in_X4 (by decide) tw_1_86 rfl rfl dX4_findMessage_16 ?_
      refine lv_iload_n hx hb dX4_findMessage_19 rfl (lv_at hl 1 rfl) ?_
      refine w_cq (r_V (As := [.int (nI (j_6))]) (rest := []) hF hB (c_Jx4a65c_get_915e3 l env s0 X u (sA u 2 (2)) (2) (⟨(hI.k2 (by decide)), rfl⟩) (j_6) hNb (hI.get (by decide) hjl_7).1 hjl_7 (hI.get (by decide) hjl_7).2.1 (hI.get (by decide) hjl_7).2.2) cv_Jx4a65c_get_915e3 tw_2_42 ⟨rfl, rfl, by decide, by decide⟩ (hB.recv ⟨(hI.k2 (by decide)), rfl⟩ (cn_2 env u (2)) rfl) rfl hl.1 rfl (lv_room (by decide)) dX4_findMessage_20 ⟨Nat.le_of_ble_eq_true rfl, Nat.le_of_ble_eq_true rfl⟩) hB (fun r_8 u_10 H locs hq_9 hB => ?_)
      obtain ⟨rfl, rfl⟩ := hq_9
      rw [hI.e2 hjl_7]
      show W p l e _ s m _ below meth c H locs _ _ _ (F0 m _ ls [.ref (sA u 14 (gN u.2.1 31 (0) (j_6)))])
      refine w_cast hF hB tw_2_149 tw_4_106 (hB.recv ⟨(hI.k14 hjl_7), rfl⟩ (cn_14 env u (gN u.2.1 31 (0) (j_6))) rfl) dX4_findMessage_23 ?_
      refine lv_goto (tgt := 30) hx hb dX4_findMessage_26 (by decide) ?_
      exact w_aret (r := some (sA u 14 (gN u.2.1 31 (0) (j_6)))) rfl hF hr (by first | exact Or.inl ⟨_, rfl⟩ | exact Or.inr ⟨_, rfl⟩) hlocks hB (⟨rfl, by rw [ix_nI (by have := hNb 3 2 0; omega) hjl_7]; rfl⟩) dX4_findMessage_30
set_option maxHeartbeats 4000000 in
set_option maxRecDepth 100000 in
theorem c_X4_findPlain (l : Launch) (env : Ev) (s0 : Nat) (X : va_W) (u : St) (a0 : Nat) (_xa0 : Nat) (ha0 : At u 0 (0) a0) (v : Int32) (hI : SI env u) (hNb : Nb u.2.1) : Met l yX4_findPlain [Cond.code yX4_findPlain cX4_findPlain 3 (some (.object "FarStore$Thing"))] { frames := 4, cells := 0, slots := 0, locals := 85 } (va_Pc [.ref (a0), .int (v)] (Pr env s0 X u)) (va_Qq (fun r u' => u = u' ∧ r = cPlain u v) (Po env s0 X) (fun q => s0 ≤ q)) 0 0 (fun q => s0 ≤ q) := by
  refine Met.ofW (cc := cX4_findPlain) (maxL := 3) (ret := (some (.object "FarStore$Thing"))) (by decide) rfl ?_
  intro p e s m args below meth c s₁ B hml hv
  obtain ⟨rfl, hv⟩ := hv
  have hx := B.exec
  have hb := B.bytes
  have hr := B.returns
  have hts : ∀ ww ∈ TT, ww.before #[.ref (a0), .int (v)] s = true := fun ww hw => hv.2.1 ww hw _
  have hown : s.vm.findClass RX4 = some m.cls := findClass_of_methodNamed B.named
  have hlocks := B.notSynchronized
  have hF : CallFix p m c cX4_findPlain 3 s #[.ref (a0), .int (v)] TT RX4 := ⟨hx, hb, hml, hown, hts⟩
  have hB := Bd.entry hv
  have hl := lv_entry ([.ref (a0), .int (v)]) (n := 3) (Nat.le_of_ble_eq_true rfl)
  rw [lg_entry_eq]
  generalize (lg_sl ([.ref (a0), .int (v)]) ++ List.replicate (3 - (lg_sl ([.ref (a0), .int (v)])).length) Slot.unset).toArray = ls at hl ⊢
  have hl : lv_has ls 3 [(0, .ref (a0)), (1, .int (v))] := hl
  refine lv_aload_n hx hb dX4_findPlain_0 rfl (lv_at hl 0 rfl) ?_
  refine lv_iload_n hx hb dX4_findPlain_1 rfl (lv_at hl 1 rfl) ?_
  refine w_cq (r_V (As := [.int (v)]) (rest := []) hF hB (c_X4_findThing l env s0 X u (a0) (0) (ha0) (v) hI hNb) cv_X4_findThing tw_2_60 ⟨rfl, rfl, by decide, by decide⟩ (hB.recv ha0 (cn_0 env u (0)) rfl) rfl hl.1 rfl (lv_room (by decide)) dX4_findPlain_2 ⟨Nat.le_of_ble_eq_true rfl, Nat.le_of_ble_eq_true rfl⟩) hB (fun r_1 u_3 H locs hq_2 hB => ?_)
  obtain ⟨rfl, rfl⟩ := hq_2
  rcases hj_5 : ix v (gN u.2.1 3 0 0) with _ | j_4
  · show W p l e _ s m _ below meth c H locs _ _ _ (F0 m _ ls [.null])
    refine lv_astore_nN (lv' := [(2, .null), (0, .ref (a0)), (1, .int (v))]) hx hb dX4_findPlain_5 rfl hl (by decide) rfl (fun ls hl => ?_)
    refine lv_aload_nN hx hb dX4_findPlain_6 rfl (lv_at hl 0 rfl) ?_
    refine lv_ifnullN (tgt := 21) hx hb dX4_findPlain_7 (by decide) ?_
    refine lv_null hx hb dX4_findPlain_21 ?_
    exact w_aret (r := none) rfl hF hr (by first | exact Or.inl ⟨_, rfl⟩ | exact Or.inr ⟨_, rfl⟩) hlocks hB (⟨rfl, by simp [cPlain, hj_5]⟩) dX4_findPlain_22
  · obtain ⟨hjl_6, rfl⟩ := ix_some (by have := hNb 3 0 0; omega) hj_5
    show W p l e _ s m _ below meth c H locs _ _ _ (F0 m _ ls [.ref (sA u 4 (j_4))])
    refine lv_astore_n (lv' := [(2, .ref (sA u 4 (j_4))), (0, .ref (a0)), (1, .int (nI (j_4)))]) hx hb dX4_findPlain_5 rfl hl (by decide) rfl (fun ls hl => ?_)
    refine lv_aload_n hx hb dX4_findPlain_6 rfl (lv_at hl 0 rfl) ?_
    refine lv_ifnull hx hb dX4_findPlain_7 ?_
    refine lv_aload_n hx hb dX4_findPlain_10 rfl (lv_at hl 0 rfl) ?_
    refine w_getN (v := .int (b2i (gB u.2.1 4 (j_4) (0)))) (fk := 2) hF hB ⟨(hI.k4 hjl_6), rfl⟩ (cn_4 env u (j_4)) rfl in_X2 (by decide) tw_1_133 rfl rfl dX4_findPlain_11 ?_
    refine w_ifne_b (tgt := 21) hx hb dX4_findPlain_14 (by decide) (fun c_7 => ?_) (fun c_7 => ?_)
    · refine lv_null hx hb dX4_findPlain_21 ?_
      exact w_aret (r := none) rfl hF hr (by first | exact Or.inl ⟨_, rfl⟩ | exact Or.inr ⟨_, rfl⟩) hlocks hB (⟨rfl, by simp [cPlain, hj_5, c_7]⟩) dX4_findPlain_22
    · refine lv_aload_n hx hb dX4_findPlain_17 rfl (lv_at hl 0 rfl) ?_
      refine lv_goto (tgt := 22) hx hb dX4_findPlain_18 (by decide) ?_
      exact w_aret (r := some (sA u 4 (j_4))) rfl hF hr (by first | exact Or.inl ⟨_, rfl⟩ | exact Or.inr ⟨_, rfl⟩) hlocks hB (⟨rfl, by simp [cPlain, hj_5, c_7]⟩) dX4_findPlain_22
set_option maxHeartbeats 4000000 in
set_option maxRecDepth 100000 in
theorem c_X4_findSet (l : Launch) (env : Ev) (s0 : Nat) (X : va_W) (u : St) (a0 : Nat) (_xa0 : Nat) (ha0 : At u 0 (0) a0) (v : Int32) (hI : SI env u) (hNb : Nb u.2.1) : Met l yX4_findSet [Cond.code yX4_findSet cX4_findSet 3 (some (.object "FarStore$Thing"))] { frames := 4, cells := 0, slots := 0, locals := 85 } (va_Pc [.ref (a0), .int (v)] (Pr env s0 X u)) (va_Qq (fun r u' => u = u' ∧ r = cSet u v) (Po env s0 X) (fun q => s0 ≤ q)) 0 0 (fun q => s0 ≤ q) := by
  refine Met.ofW (cc := cX4_findSet) (maxL := 3) (ret := (some (.object "FarStore$Thing"))) (by decide) rfl ?_
  intro p e s m args below meth c s₁ B hml hv
  obtain ⟨rfl, hv⟩ := hv
  have hx := B.exec
  have hb := B.bytes
  have hr := B.returns
  have hts : ∀ ww ∈ TT, ww.before #[.ref (a0), .int (v)] s = true := fun ww hw => hv.2.1 ww hw _
  have hown : s.vm.findClass RX4 = some m.cls := findClass_of_methodNamed B.named
  have hlocks := B.notSynchronized
  have hF : CallFix p m c cX4_findSet 3 s #[.ref (a0), .int (v)] TT RX4 := ⟨hx, hb, hml, hown, hts⟩
  have hB := Bd.entry hv
  have hl := lv_entry ([.ref (a0), .int (v)]) (n := 3) (Nat.le_of_ble_eq_true rfl)
  rw [lg_entry_eq]
  generalize (lg_sl ([.ref (a0), .int (v)]) ++ List.replicate (3 - (lg_sl ([.ref (a0), .int (v)])).length) Slot.unset).toArray = ls at hl ⊢
  have hl : lv_has ls 3 [(0, .ref (a0)), (1, .int (v))] := hl
  refine lv_aload_n hx hb dX4_findSet_0 rfl (lv_at hl 0 rfl) ?_
  refine lv_iload_n hx hb dX4_findSet_1 rfl (lv_at hl 1 rfl) ?_
  refine w_cq (r_V (As := [.int (v)]) (rest := []) hF hB (c_X4_findThing l env s0 X u (a0) (0) (ha0) (v) hI hNb) cv_X4_findThing tw_2_60 ⟨rfl, rfl, by decide, by decide⟩ (hB.recv ha0 (cn_0 env u (0)) rfl) rfl hl.1 rfl (lv_room (by decide)) dX4_findSet_2 ⟨Nat.le_of_ble_eq_true rfl, Nat.le_of_ble_eq_true rfl⟩) hB (fun r_1 u_3 H locs hq_2 hB => ?_)
  obtain ⟨rfl, rfl⟩ := hq_2
  rcases hj_5 : ix v (gN u.2.1 3 0 0) with _ | j_4
  · show W p l e _ s m _ below meth c H locs _ _ _ (F0 m _ ls [.null])
    refine lv_astore_nN (lv' := [(2, .null), (0, .ref (a0)), (1, .int (v))]) hx hb dX4_findSet_5 rfl hl (by decide) rfl (fun ls hl => ?_)
    refine lv_aload_nN hx hb dX4_findSet_6 rfl (lv_at hl 0 rfl) ?_
    refine lv_ifnullN (tgt := 21) hx hb dX4_findSet_7 (by decide) ?_
    refine lv_null hx hb dX4_findSet_21 ?_
    exact w_aret (r := none) rfl hF hr (by first | exact Or.inl ⟨_, rfl⟩ | exact Or.inr ⟨_, rfl⟩) hlocks hB (⟨rfl, by simp [cSet, hj_5]⟩) dX4_findSet_22
  · obtain ⟨hjl_6, rfl⟩ := ix_some (by have := hNb 3 0 0; omega) hj_5
    show W p l e _ s m _ below meth c H locs _ _ _ (F0 m _ ls [.ref (sA u 4 (j_4))])
    refine lv_astore_n (lv' := [(2, .ref (sA u 4 (j_4))), (0, .ref (a0)), (1, .int (nI (j_4)))]) hx hb dX4_findSet_5 rfl hl (by decide) rfl (fun ls hl => ?_)
    refine lv_aload_n hx hb dX4_findSet_6 rfl (lv_at hl 0 rfl) ?_
    refine lv_ifnull hx hb dX4_findSet_7 ?_
    refine lv_aload_n hx hb dX4_findSet_10 rfl (lv_at hl 0 rfl) ?_
    refine w_getN (v := .int (b2i (gB u.2.1 4 (j_4) (0)))) (fk := 2) hF hB ⟨(hI.k4 hjl_6), rfl⟩ (cn_4 env u (j_4)) rfl in_X2 (by decide) tw_1_133 rfl rfl dX4_findSet_11 ?_
    refine w_ifeq_b (tgt := 21) hx hb dX4_findSet_14 (by decide) (fun c_7 => ?_) (fun c_7 => ?_)
    · refine lv_null hx hb dX4_findSet_21 ?_
      exact w_aret (r := none) rfl hF hr (by first | exact Or.inl ⟨_, rfl⟩ | exact Or.inr ⟨_, rfl⟩) hlocks hB (⟨rfl, by simp [cSet, hj_5, c_7]⟩) dX4_findSet_22
    · refine lv_aload_n hx hb dX4_findSet_17 rfl (lv_at hl 0 rfl) ?_
      refine lv_goto (tgt := 22) hx hb dX4_findSet_18 (by decide) ?_
      exact w_aret (r := some (sA u 4 (j_4))) rfl hF hr (by first | exact Or.inl ⟨_, rfl⟩ | exact Or.inr ⟨_, rfl⟩) hlocks hB (⟨rfl, by simp [cSet, hj_5, c_7]⟩) dX4_findSet_22
set_option maxHeartbeats 4000000 in
set_option maxRecDepth 100000 in
theorem c_X4_isPlainOf (l : Launch) (env : Ev) (s0 : Nat) (X : va_W) (u : St) (a0 : Nat) (t : Nat) (ha0 : At u 8 (t) a0) (a1 : Nat) (k : Nat) (ha1 : At u 4 (k) a1) (a2 : Nat) (w : Nat) (ha2 : At u 5 (w) a2) (hI : SI env u) (hNb : Nb u.2.1) : Met l yX4_isPlainOf [Cond.code yX4_isPlainOf cX4_isPlainOf 3 (some .boolean)] { frames := 0, cells := 0, slots := 0, locals := 0 } (va_Pc [.ref (a0), .ref (a1), .ref (a2)] (Pr env s0 X u)) (va_Qi (fun r u' => u = u' ∧ r = b2i (cPlQ u.2.1 t w k)) (Po env s0 X) (fun q => s0 ≤ q)) 0 0 (fun q => s0 ≤ q) := by
  refine Met.ofW (cc := cX4_isPlainOf) (maxL := 3) (ret := (some .boolean)) (by decide) rfl ?_
  intro p e s m args below meth c s₁ B hml hv
  obtain ⟨rfl, hv⟩ := hv
  have hx := B.exec
  have hb := B.bytes
  have hr := B.returns
  have hts : ∀ ww ∈ TT, ww.before #[.ref (a0), .ref (a1), .ref (a2)] s = true := fun ww hw => hv.2.1 ww hw _
  have hown : s.vm.findClass RX4 = some m.cls := findClass_of_methodNamed B.named
  have hlocks := B.notSynchronized
  have hF : CallFix p m c cX4_isPlainOf 3 s #[.ref (a0), .ref (a1), .ref (a2)] TT RX4 := ⟨hx, hb, hml, hown, hts⟩
  have hB := Bd.entry hv
  have hl := lv_entry ([.ref (a0), .ref (a1), .ref (a2)]) (n := 3) (Nat.le_of_ble_eq_true rfl)
  rw [lg_entry_eq]
  generalize (lg_sl ([.ref (a0), .ref (a1), .ref (a2)]) ++ List.replicate (3 - (lg_sl ([.ref (a0), .ref (a1), .ref (a2)])).length) Slot.unset).toArray = ls at hl ⊢
  have hl : lv_has ls 3 [(0, .ref (a0)), (1, .ref (a1)), (2, .ref (a2))] := hl
  have hk := (hI.th ha1.1).1
  have hn := hI.nth
  refine lv_aload_n hx hb dX4_isPlainOf_0 rfl (lv_at hl 0 rfl) ?_
  refine w_getN (v := .ref (sA u 10 (t))) (fk := 3) hF hB ha0 (cn_8 env u (t)) rfl in_X3 (by decide) tw_1_223 rfl rfl dX4_isPlainOf_1 ?_
  refine lv_aload_n hx hb dX4_isPlainOf_4 rfl (lv_at hl 1 rfl) ?_
  refine w_getN (v := .int (nI (k))) (fk := 0) hF hB ha1 (cn_4 env u (k)) rfl in_X2 (by decide) tw_1_129 rfl rfl dX4_isPlainOf_5 ?_
  refine w_zald (v := .int (b2i (gB u.2.1 10 (t) (k)))) hF hB ⟨(hI.k10 ha0.1), rfl⟩ (cn_10 env u (t)) (by omega) rfl (by decide) dX4_isPlainOf_8 ?_
  refine w_ifeq_b (tgt := 24) hx hb dX4_isPlainOf_9 (by decide) (fun c_1 => ?_) (fun c_1 => ?_)
  · refine lv_iconst (v := nI 0) hx hb dX4_isPlainOf_24 (by decide) ?_
    exact w_zret (v := nI 0) hF hr rfl hlocks hB (⟨rfl, b2i_c0 (by simp [cPlQ, c_1] <;> omega)⟩) dX4_isPlainOf_25
  · refine lv_aload_n hx hb dX4_isPlainOf_12 rfl (lv_at hl 1 rfl) ?_
    refine w_getN (v := .ref (sA u 5 (gN u.2.1 25 (k) 0))) (fk := 1) hF hB ha1 (cn_4 env u (k)) rfl in_X2 (by decide) tw_1_131 rfl rfl dX4_isPlainOf_13 ?_
    refine lv_aload_n hx hb dX4_isPlainOf_16 rfl (lv_at hl 2 rfl) ?_
    refine w_acmp_ne (tgt := 24) hx hb dX4_isPlainOf_17 (by decide) (fun c_2 => ?_) (fun c_2 => ?_)
    · rw [hB.eqi ⟨(hI.k5 (hI.th ha1.1).2), rfl⟩ ha2] at c_2
      refine lv_iconst (v := nI 0) hx hb dX4_isPlainOf_24 (by decide) ?_
      exact w_zret (v := nI 0) hF hr rfl hlocks hB (⟨rfl, b2i_c0 (by simp [cPlQ, c_1, c_2] <;> omega)⟩) dX4_isPlainOf_25
    · rw [hB.eqi ⟨(hI.k5 (hI.th ha1.1).2), rfl⟩ ha2] at c_2
      refine lv_iconst (v := nI 1) hx hb dX4_isPlainOf_20 (by decide) ?_
      refine lv_goto (tgt := 25) hx hb dX4_isPlainOf_21 (by decide) ?_
      exact w_zret (v := nI 1) hF hr rfl hlocks hB (⟨rfl, b2i_c1 (by simp [cPlQ, c_1, c_2] <;> omega)⟩) dX4_isPlainOf_25
set_option maxHeartbeats 4000000 in
set_option maxRecDepth 100000 in
theorem c_X1_isFree (l : Launch) (env : Ev) (s0 : Nat) (X : va_W) (u : St) (a0 : Nat) (w : Nat) (ha0 : At u 5 (w) a0) (a1 : Nat) (k : Nat) (ha1 : At u 4 (k) a1) (a2 : Nat) (t : Nat) (ha2 : At u 8 (t) a2) (hI : SI env u) (hNb : Nb u.2.1) (hw : w < 4) : Met l yX1_isFree [Cond.code yX1_isFree cX1_isFree 5 (some .boolean)] { frames := 3, cells := 0, slots := 0, locals := 64 } (va_Pc [.ref (a0), .ref (a1), .ref (a2)] (Pr env s0 X u)) (va_Qi (fun r u' => u = u' ∧ r = b2i (cIsFree u.2.1 w k t)) (Po env s0 X) (fun q => s0 ≤ q)) 0 0 (fun q => s0 ≤ q) := by
  refine Met.ofW (cc := cX1_isFree) (maxL := 5) (ret := (some .boolean)) (by decide) rfl ?_
  intro p e s m args below meth c s₁ B hml hv
  obtain ⟨rfl, hv⟩ := hv
  have hx := B.exec
  have hb := B.bytes
  have hr := B.returns
  have hts : ∀ ww ∈ TT, ww.before #[.ref (a0), .ref (a1), .ref (a2)] s = true := fun ww hw => hv.2.1 ww hw _
  have hown : s.vm.findClass RX1 = some m.cls := findClass_of_methodNamed B.named
  have hlocks := B.notSynchronized
  have hF : CallFix p m c cX1_isFree 5 s #[.ref (a0), .ref (a1), .ref (a2)] TT RX1 := ⟨hx, hb, hml, hown, hts⟩
  have hB := Bd.entry hv
  have hl := lv_entry ([.ref (a0), .ref (a1), .ref (a2)]) (n := 5) (Nat.le_of_ble_eq_true rfl)
  rw [lg_entry_eq]
  generalize (lg_sl ([.ref (a0), .ref (a1), .ref (a2)]) ++ List.replicate (5 - (lg_sl ([.ref (a0), .ref (a1), .ref (a2)])).length) Slot.unset).toArray = ls at hl ⊢
  have hl : lv_has ls 5 [(0, .ref (a0)), (1, .ref (a1)), (2, .ref (a2))] := hl
  have hk := (hI.th ha1.1).1
  have hn := hI.nth
  refine lv_aload_n hx hb dX1_isFree_0 rfl (lv_at hl 0 rfl) ?_
  refine w_get (v := .ref (sA u 7 (w))) (fk := 3) hF hB ha0 (cn_5 env u (w)) rfl in_X1 (by decide) tw_1_69 rfl rfl dX1_isFree_1 ?_
  refine lv_aload_n hx hb dX1_isFree_4 rfl (lv_at hl 1 rfl) ?_
  refine w_getN (v := .int (nI (k))) (fk := 0) hF hB ha1 (cn_4 env u (k)) rfl in_X2 (by decide) tw_1_128 rfl rfl dX1_isFree_5 ?_
  refine w_iald (v := .int (gI u.2.1 7 (w) (k))) hF hB ⟨(hI.k7 (by omega)), rfl⟩ (cn_7 env u (w)) (by omega) rfl (by decide) dX1_isFree_8 ?_
  refine lv_bipush (v := -4) hx hb dX1_isFree_9 (by decide) ?_
  refine lv_icmp_eq (tgt := 16) hx hb dX1_isFree_11 (by decide) (fun c_1 => ?_) (fun c_1 => ?_)
  · refine lv_iconst (v := nI 0) hx hb dX1_isFree_16 (by decide) ?_
    refine lv_istore_n (lv' := [(3, .int (nI (0))), (0, .ref (a0)), (1, .ref (a1)), (2, .ref (a2))]) hx hb dX1_isFree_17 rfl hl (by decide) rfl (fun ls hl => ?_)
    refine wloopH (σ := Heap × List Loc × Array Slot) (G := fun x => W p l e _ s m _ below meth c x.1 x.2.1 _ _ _ (F0 m 18 x.2.2 [])) (P := fun i_2 x => (∀ j, j < i_2 → cFrQ u.2.1 w k t j = true) ∧ Bd env s0 X u s x.1 x.2.1 ∧ lv_has x.2.2 5 [(0, .ref (a0)), (1, .ref (a1)), (2, .ref (a2)), (3, .int (nI (i_2)))]) (N := gN u.2.1 3 (3 + w) 0) ?_ 0 (_, _, ls) (Nat.zero_le _) ⟨(fun q h => absurd h (Nat.not_lt_zero q)), hB, lv_sub hl [1, 2, 3, 0] rfl⟩
    rintro i_2 ⟨H, locs, ls⟩ hi_3 ⟨hv_4, hB, hl⟩ ih18
    replace hB : Bd env s0 X u s H locs := hB
    replace hl : lv_has ls 5 [(0, .ref (a0)), (1, .ref (a1)), (2, .ref (a2)), (3, .int (nI (i_2)))] := hl
    show W p l e _ s m _ below meth c H locs _ _ _ (F0 m 18 ls [])
    have := hNb 3 (3 + w) 0
    refine lv_iload_n hx hb dX1_isFree_18 rfl (lv_at hl 3 rfl) ?_
    refine lv_aload_n hx hb dX1_isFree_19 rfl (lv_at hl 0 rfl) ?_
    refine w_get (v := .ref (sA u 2 (3 + (w)))) (fk := 2) hF hB ha0 (cn_5 env u (w)) rfl in_X1 (by decide) tw_1_68 rfl rfl dX1_isFree_20 ?_
    refine w_ci (r_V (As := []) (rest := [.int (nI (i_2))]) hF hB (c_Jx4a65c_size_8abf5 l env s0 X u (sA u 2 (3 + (w))) (3 + (w)) (⟨(hI.k2 (by have := (by omega); omega)), rfl⟩) ) cv_Jx4a65c_size_8abf5 tw_2_68 ⟨rfl, rfl, by decide, by decide⟩ (hB.recv ⟨(hI.k2 (by have := (by omega); omega)), rfl⟩ (cn_2 env u (3 + (w))) rfl) rfl hl.1 rfl (lv_room (Nat.le_of_ble_eq_true rfl)) dX1_isFree_23 ⟨Nat.le_of_ble_eq_true rfl, Nat.le_of_ble_eq_true rfl⟩) hB (fun r_5 u_7 H locs hq_6 hB => ?_)
    obtain ⟨rfl, rfl⟩ := hq_6
    refine w_icge_n (tgt := 75) (by omega) (by have := hNb 3 (3 + (w)) 0; omega) hx hb dX1_isFree_26 (by decide) (fun c_8 => ?_) (fun c_8 => ?_)
    · refine lv_iconst (v := nI 1) hx hb dX1_isFree_75 (by decide) ?_
      exact w_zret (v := nI 1) hF hr rfl hlocks hB (⟨rfl, b2i_c1 (by rw [cIsFree, allN_t (fun q hq => hv_4 q (by omega))]; simp [c_1])⟩) dX1_isFree_76
    · refine lv_aload_n hx hb dX1_isFree_29 rfl (lv_at hl 0 rfl) ?_
      refine w_get (v := .ref (sA u 2 (3 + (w)))) (fk := 2) hF hB ha0 (cn_5 env u (w)) rfl in_X1 (by decide) tw_1_68 rfl rfl dX1_isFree_30 ?_
      refine lv_iload_n hx hb dX1_isFree_33 rfl (lv_at hl 3 rfl) ?_
      refine w_cq (r_V (As := [.int (nI (i_2))]) (rest := []) hF hB (c_Jx4a65c_get_915e3 l env s0 X u (sA u 2 (3 + (w))) (3 + (w)) (⟨(hI.k2 (by have := (by omega); omega)), rfl⟩) (i_2) hNb (hI.get (by have := (by omega); omega) c_8).1 c_8 (hI.get (by have := (by omega); omega) c_8).2.1 (hI.get (by have := (by omega); omega) c_8).2.2) cv_Jx4a65c_get_915e3 tw_2_69 ⟨rfl, rfl, by decide, by decide⟩ (hB.recv ⟨(hI.k2 (by have := (by omega); omega)), rfl⟩ (cn_2 env u (3 + (w))) rfl) rfl hl.1 rfl (lv_room (by decide)) dX1_isFree_34 ⟨Nat.le_of_ble_eq_true rfl, Nat.le_of_ble_eq_true rfl⟩) hB (fun r_9 u_11 H locs hq_10 hB => ?_)
      obtain ⟨rfl, rfl⟩ := hq_10
      rw [hI.e3 (by omega) c_8]
      show W p l e _ s m _ below meth c H locs _ _ _ (F0 m _ ls [.ref (sA u 8 (gN u.2.1 30 (w) (i_2)))])
      refine w_cast hF hB tw_2_70 tw_4_104 (hB.recv ⟨(hI.k8 (hI.o3 (by omega) c_8)), rfl⟩ (cn_8 env u (gN u.2.1 30 (w) (i_2))) rfl) dX1_isFree_37 ?_
      refine lv_astore (lv' := [(4, .ref (sA u 8 (gN u.2.1 30 (w) (i_2)))), (0, .ref (a0)), (1, .ref (a1)), (2, .ref (a2)), (3, .int (nI (i_2)))]) hx hb dX1_isFree_40 hl (by decide) rfl (fun ls hl => ?_)
      refine lv_aload hx hb dX1_isFree_42 (lv_at hl 0 rfl) ?_
      refine w_getN (v := .ref (sA u 10 (gN u.2.1 30 (w) (i_2)))) (fk := 3) hF hB ⟨(hI.k8 (hI.o3 (by omega) c_8)), rfl⟩ (cn_8 env u (gN u.2.1 30 (w) (i_2))) rfl in_X3 (by decide) tw_1_222 rfl rfl dX1_isFree_44 ?_
      refine lv_aload_n hx hb dX1_isFree_47 rfl (lv_at hl 2 rfl) ?_
      refine w_getN (v := .int (nI (k))) (fk := 0) hF hB ha1 (cn_4 env u (k)) rfl in_X2 (by decide) tw_1_128 rfl rfl dX1_isFree_48 ?_
      refine w_zald (v := .int (b2i (gB u.2.1 10 (gN u.2.1 30 (w) (i_2)) (k)))) hF hB ⟨(hI.k10 (hI.k8 (hI.o3 (by omega) c_8))), rfl⟩ (cn_10 env u (gN u.2.1 30 (w) (i_2))) (by omega) rfl (by decide) dX1_isFree_51 ?_
      refine w_ifeq_b (tgt := 69) hx hb dX1_isFree_52 (by decide) (fun c_12 => ?_) (fun c_12 => ?_)
      · refine lv_iinc (v := nI (i_2 + 1)) (lv' := [(3, .int (nI (i_2 + 1))), (4, .ref (sA u 8 (gN u.2.1 30 (w) (i_2)))), (0, .ref (a0)), (1, .ref (a1)), (2, .ref (a2))]) hx hb dX1_isFree_69 hl (k := 4) rfl (nI_add _ _) (by decide) rfl (fun ls hl => ?_)
        refine lv_goto (tgt := 18) hx hb dX1_isFree_72 (by decide) ?_
        exact ih18 (H, locs, ls) (by omega) ⟨lt_st hv_4 (by simp [cFrQ, c_12]), hB, by exact lv_sub hl [2, 3, 4, 0] rfl⟩
      · refine lv_aload hx hb dX1_isFree_55 (lv_at hl 0 rfl) ?_
        refine lv_aload_n hx hb dX1_isFree_57 rfl (lv_at hl 3 rfl) ?_
        refine w_getN (v := .ref (sA u 9 (t))) (fk := 2) hF hB ha2 (cn_8 env u (t)) rfl in_X3 (by decide) tw_1_219 rfl rfl dX1_isFree_58 ?_
        refine w_ci (r_VN (As := [.ref (sA u 9 (t))]) (rest := []) hF hB (c_X3_isWithin l env s0 X u (sA u 8 (gN u.2.1 30 (w) (i_2))) (gN u.2.1 30 (w) (i_2)) (⟨(hI.k8 (hI.o3 (by omega) c_8)), rfl⟩) (sA u 9 (t)) (9) (t) (⟨(hI.k9 ha2.1), rfl⟩) hI hNb (Or.inr rfl)) cv_X3_isWithin tw_2_71 ⟨rfl, rfl, by decide, by decide⟩ (hB.recv ⟨(hI.k8 (hI.o3 (by omega) c_8)), rfl⟩ (cn_8 env u (gN u.2.1 30 (w) (i_2))) rfl) rfl hl.1 rfl (lv_room (by decide)) dX1_isFree_61 ⟨Nat.le_of_ble_eq_true rfl, Nat.le_of_ble_eq_true rfl⟩) hB (fun r_13 u_15 H locs hq_14 hB => ?_)
        obtain ⟨rfl, rfl⟩ := hq_14
        refine w_ifne_b (tgt := 69) hx hb dX1_isFree_64 (by decide) (fun c_16 => ?_) (fun c_16 => ?_)
        · refine lv_iinc (v := nI (i_2 + 1)) (lv' := [(3, .int (nI (i_2 + 1))), (4, .ref (sA u 8 (gN u.2.1 30 (w) (i_2)))), (0, .ref (a0)), (1, .ref (a1)), (2, .ref (a2))]) hx hb dX1_isFree_69 hl (k := 4) rfl (nI_add _ _) (by decide) rfl (fun ls hl => ?_)
          refine lv_goto (tgt := 18) hx hb dX1_isFree_72 (by decide) ?_
          exact ih18 (H, locs, ls) (by omega) ⟨lt_st hv_4 (by simp [cFrQ, c_12, c_16]), hB, by exact lv_sub hl [2, 3, 4, 0] rfl⟩
        · refine lv_iconst (v := nI 0) hx hb dX1_isFree_67 (by decide) ?_
          exact w_zret (v := nI 0) hF hr rfl hlocks hB (⟨rfl, b2i_c0 (by rw [cIsFree, allN_f c_8 (by simp [cFrQ, c_12, c_16])]; simp)⟩) dX1_isFree_68
  · refine lv_iconst (v := nI 0) hx hb dX1_isFree_14 (by decide) ?_
    exact w_zret (v := nI 0) hF hr rfl hlocks hB (⟨rfl, b2i_c0 (by simp [cIsFree, c_1])⟩) dX1_isFree_15
set_option maxHeartbeats 4000000 in
set_option maxRecDepth 100000 in
theorem c_X1_valueOf (l : Launch) (env : Ev) (s0 : Nat) (X : va_W) (u : St) (a0 : Nat) (w : Nat) (ha0 : At u 5 (w) a0) (a1 : Nat) (k : Nat) (ha1 : At u 4 (k) a1) (a2 : Nat) (kq kr : Nat) (ha2 : At u kq kr a2) (hI : SI env u) (hNb : Nb u.2.1) (hw : w < 4) (hq : kq = 6 ∨ kq = 9) : Met l yX1_valueOf [Cond.code yX1_valueOf cX1_valueOf 5 (some .long)] { frames := 3, cells := 0, slots := 0, locals := 64 } (va_Pc [.ref (a0), .ref (a1), .ref (a2)] (Pr env s0 X u)) (va_Ql (fun r u' => u = u' ∧ r = cValueOf u.2.1 w k kq kr) (Po env s0 X) (fun q => s0 ≤ q)) 0 0 (fun q => s0 ≤ q) := by
  refine Met.ofW (cc := cX1_valueOf) (maxL := 5) (ret := (some .long)) (by decide) rfl ?_
  intro p e s m args below meth c s₁ B hml hv
  obtain ⟨rfl, hv⟩ := hv
  have hx := B.exec
  have hb := B.bytes
  have hr := B.returns
  have hts : ∀ ww ∈ TT, ww.before #[.ref (a0), .ref (a1), .ref (a2)] s = true := fun ww hw => hv.2.1 ww hw _
  have hown : s.vm.findClass RX1 = some m.cls := findClass_of_methodNamed B.named
  have hlocks := B.notSynchronized
  have hF : CallFix p m c cX1_valueOf 5 s #[.ref (a0), .ref (a1), .ref (a2)] TT RX1 := ⟨hx, hb, hml, hown, hts⟩
  have hB := Bd.entry hv
  have hl := lv_entry ([.ref (a0), .ref (a1), .ref (a2)]) (n := 5) (Nat.le_of_ble_eq_true rfl)
  rw [lg_entry_eq]
  generalize (lg_sl ([.ref (a0), .ref (a1), .ref (a2)]) ++ List.replicate (5 - (lg_sl ([.ref (a0), .ref (a1), .ref (a2)])).length) Slot.unset).toArray = ls at hl ⊢
  have hl : lv_has ls 5 [(0, .ref (a0)), (1, .ref (a1)), (2, .ref (a2))] := hl
  have hk := (hI.th ha1.1).1
  have hn := hI.nth
  refine lv_aload_n hx hb dX1_valueOf_0 rfl (lv_at hl 0 rfl) ?_
  refine w_get (v := .ref (sA u 2 (3 + (w)))) (fk := 2) hF hB ha0 (cn_5 env u (w)) rfl in_X1 (by decide) tw_1_68 rfl rfl dX1_valueOf_1 ?_
  refine w_ci (r_V (As := []) (rest := []) hF hB (c_Jx4a65c_size_8abf5 l env s0 X u (sA u 2 (3 + (w))) (3 + (w)) (⟨(hI.k2 (by have := (by omega); omega)), rfl⟩) ) cv_Jx4a65c_size_8abf5 tw_2_68 ⟨rfl, rfl, by decide, by decide⟩ (hB.recv ⟨(hI.k2 (by have := (by omega); omega)), rfl⟩ (cn_2 env u (3 + (w))) rfl) rfl hl.1 rfl (lv_room (by decide)) dX1_valueOf_4 ⟨Nat.le_of_ble_eq_true rfl, Nat.le_of_ble_eq_true rfl⟩) hB (fun r_1 u_3 H locs hq_2 hB => ?_)
  obtain ⟨rfl, rfl⟩ := hq_2
  refine lv_iconst (v := nI 1) hx hb dX1_valueOf_7 (by decide) ?_
  refine lv_isub hx hb dX1_valueOf_8 ?_
  refine lv_istore_n (lv' := [(3, .int ((nI (gN u.2.1 3 (3 + (w)) 0)) - (nI 1))), (0, .ref (a0)), (1, .ref (a1)), (2, .ref (a2))]) hx hb dX1_valueOf_9 rfl hl (by decide) rfl (fun ls hl => ?_)
  refine wloopDH (σ := Heap × List Loc × Array Slot) (G := fun x => W p l e _ s m _ below meth c x.1 x.2.1 _ _ _ (F0 m 10 x.2.2 [])) (P := fun d_4 x => (lastL (cVaQ u.2.1 w k kq kr) (cVaV u.2.1 w k) (gN u.2.1 3 (3 + w) 0) = lastL (cVaQ u.2.1 w k kq kr) (cVaV u.2.1 w k) (d_4) ∧ d_4 ≤ gN u.2.1 3 (3 + w) 0) ∧ Bd env s0 X u s x.1 x.2.1 ∧ lv_has x.2.2 5 [(0, .ref (a0)), (1, .ref (a1)), (2, .ref (a2)), (3, .int (nI (d_4) - nI 1))]) ?_ ?_ (gN u.2.1 3 (3 + w) 0) (_, _, ls) ⟨⟨rfl, Nat.le_refl _⟩, hB, lv_sub hl [1, 2, 3, 0] rfl⟩
  · rintro ⟨H, locs, ls⟩ ⟨⟨hv_5, hle_6⟩, hB, hl⟩
    replace hB : Bd env s0 X u s H locs := hB
    replace hl : lv_has ls 5 [(0, .ref (a0)), (1, .ref (a1)), (2, .ref (a2)), (3, .int (nI (0) - nI 1))] := hl
    show W p l e _ s m _ below meth c H locs _ _ _ (F0 m 10 ls [])
    refine lv_iload_n hx hb dX1_valueOf_10 rfl (lv_at hl 3 rfl) ?_
    refine lv_if_lt (tgt := 66) hx hb dX1_valueOf_11 (by decide) (fun _ => ?_) (fun c => absurd (by decide) c)
    refine lv_lconst (v := 0) hx hb dX1_valueOf_66 (by decide) ?_
    exact w_lret (v := 0) hF hr hlocks hB (⟨rfl, by rw [cValueOf, hv_5]; rfl⟩) dX1_valueOf_67
  · rintro d_4 ⟨H, locs, ls⟩ ⟨⟨hv_5, hle_6⟩, hB, hl⟩ ih10
    replace hB : Bd env s0 X u s H locs := hB
    replace hl : lv_has ls 5 [(0, .ref (a0)), (1, .ref (a1)), (2, .ref (a2)), (3, .int (nI (d_4 + 1) - nI 1))] := hl
    rw [nI_s1] at hl
    show W p l e _ s m _ below meth c H locs _ _ _ (F0 m 10 ls [])
    have := hNb 3 (3 + w) 0
    refine lv_iload_n hx hb dX1_valueOf_10 rfl (lv_at hl 3 rfl) ?_
    refine w_iflt_n (tgt := 66) (by omega) hx hb dX1_valueOf_11 (by decide) ?_
    refine lv_aload_n hx hb dX1_valueOf_14 rfl (lv_at hl 0 rfl) ?_
    refine w_get (v := .ref (sA u 2 (3 + (w)))) (fk := 2) hF hB ha0 (cn_5 env u (w)) rfl in_X1 (by decide) tw_1_68 rfl rfl dX1_valueOf_15 ?_
    refine lv_iload_n hx hb dX1_valueOf_18 rfl (lv_at hl 3 rfl) ?_
    refine w_cq (r_V (As := [.int (nI (d_4))]) (rest := []) hF hB (c_Jx4a65c_get_915e3 l env s0 X u (sA u 2 (3 + (w))) (3 + (w)) (⟨(hI.k2 (by have := (by omega); omega)), rfl⟩) (d_4) hNb (hI.get (by have := (by omega); omega) (show d_4 < gN u.2.1 3 (3 + w) 0 by omega)).1 (show d_4 < gN u.2.1 3 (3 + w) 0 by omega) (hI.get (by have := (by omega); omega) (show d_4 < gN u.2.1 3 (3 + w) 0 by omega)).2.1 (hI.get (by have := (by omega); omega) (show d_4 < gN u.2.1 3 (3 + w) 0 by omega)).2.2) cv_Jx4a65c_get_915e3 tw_2_69 ⟨rfl, rfl, by decide, by decide⟩ (hB.recv ⟨(hI.k2 (by have := (by omega); omega)), rfl⟩ (cn_2 env u (3 + (w))) rfl) rfl hl.1 rfl (lv_room (by decide)) dX1_valueOf_19 ⟨Nat.le_of_ble_eq_true rfl, Nat.le_of_ble_eq_true rfl⟩) hB (fun r_7 u_9 H locs hq_8 hB => ?_)
    obtain ⟨rfl, rfl⟩ := hq_8
    rw [hI.e3 (by omega) (show d_4 < gN u.2.1 3 (3 + w) 0 by omega)]
    show W p l e _ s m _ below meth c H locs _ _ _ (F0 m _ ls [.ref (sA u 8 (gN u.2.1 30 (w) (d_4)))])
    refine w_cast hF hB tw_2_70 tw_4_104 (hB.recv ⟨(hI.k8 (hI.o3 (by omega) (show d_4 < gN u.2.1 3 (3 + w) 0 by omega))), rfl⟩ (cn_8 env u (gN u.2.1 30 (w) (d_4))) rfl) dX1_valueOf_22 ?_
    refine lv_astore (lv' := [(4, .ref (sA u 8 (gN u.2.1 30 (w) (d_4)))), (0, .ref (a0)), (1, .ref (a1)), (2, .ref (a2)), (3, .int (nI (d_4)))]) hx hb dX1_valueOf_25 hl (by decide) rfl (fun ls hl => ?_)
    refine lv_aload hx hb dX1_valueOf_27 (lv_at hl 0 rfl) ?_
    refine w_getN (v := .ref (sA u 10 (gN u.2.1 30 (w) (d_4)))) (fk := 3) hF hB ⟨(hI.k8 (hI.o3 (by omega) (show d_4 < gN u.2.1 3 (3 + w) 0 by omega))), rfl⟩ (cn_8 env u (gN u.2.1 30 (w) (d_4))) rfl in_X3 (by decide) tw_1_222 rfl rfl dX1_valueOf_29 ?_
    refine lv_aload_n hx hb dX1_valueOf_32 rfl (lv_at hl 2 rfl) ?_
    refine w_getN (v := .int (nI (k))) (fk := 0) hF hB ha1 (cn_4 env u (k)) rfl in_X2 (by decide) tw_1_128 rfl rfl dX1_valueOf_33 ?_
    refine w_zald (v := .int (b2i (gB u.2.1 10 (gN u.2.1 30 (w) (d_4)) (k)))) hF hB ⟨(hI.k10 (hI.k8 (hI.o3 (by omega) (show d_4 < gN u.2.1 3 (3 + w) 0 by omega)))), rfl⟩ (cn_10 env u (gN u.2.1 30 (w) (d_4))) (by omega) rfl (by decide) dX1_valueOf_36 ?_
    refine w_ifeq_b (tgt := 60) hx hb dX1_valueOf_37 (by decide) (fun c_10 => ?_) (fun c_10 => ?_)
    · refine lv_iinc (v := nI (d_4) - nI 1) (lv' := [(3, .int (nI (d_4) - nI 1)), (4, .ref (sA u 8 (gN u.2.1 30 (w) (d_4)))), (0, .ref (a0)), (1, .ref (a1)), (2, .ref (a2))]) hx hb dX1_valueOf_60 hl (k := 4) rfl (nI_dec _) (by decide) rfl (fun ls hl => ?_)
      refine lv_goto (tgt := 10) hx hb dX1_valueOf_63 (by decide) ?_
      exact ih10 (H, locs, ls) ⟨⟨hv_5.trans (by rw [lastL_s, if_neg (by simp [cVaQ, c_10])]), by omega⟩, hB, lv_sub hl [2, 3, 4, 0] rfl⟩
    · refine lv_aload hx hb dX1_valueOf_40 (lv_at hl 0 rfl) ?_
      refine lv_aload_n hx hb dX1_valueOf_42 rfl (lv_at hl 3 rfl) ?_
      refine w_ci (r_VN (As := [.ref (a2)]) (rest := []) hF hB (c_X3_isWithin l env s0 X u (sA u 8 (gN u.2.1 30 (w) (d_4))) (gN u.2.1 30 (w) (d_4)) (⟨(hI.k8 (hI.o3 (by omega) (show d_4 < gN u.2.1 3 (3 + w) 0 by omega))), rfl⟩) (a2) (kq) (kr) (ha2) hI hNb hq) cv_X3_isWithin tw_2_71 ⟨rfl, rfl, by decide, by decide⟩ (hB.recv ⟨(hI.k8 (hI.o3 (by omega) (show d_4 < gN u.2.1 3 (3 + w) 0 by omega))), rfl⟩ (cn_8 env u (gN u.2.1 30 (w) (d_4))) rfl) rfl hl.1 rfl (lv_room (by decide)) dX1_valueOf_43 ⟨Nat.le_of_ble_eq_true rfl, Nat.le_of_ble_eq_true rfl⟩) hB (fun r_11 u_13 H locs hq_12 hB => ?_)
      obtain ⟨rfl, rfl⟩ := hq_12
      refine w_ifeq_b (tgt := 60) hx hb dX1_valueOf_46 (by decide) (fun c_14 => ?_) (fun c_14 => ?_)
      · refine lv_iinc (v := nI (d_4) - nI 1) (lv' := [(3, .int (nI (d_4) - nI 1)), (4, .ref (sA u 8 (gN u.2.1 30 (w) (d_4)))), (0, .ref (a0)), (1, .ref (a1)), (2, .ref (a2))]) hx hb dX1_valueOf_60 hl (k := 4) rfl (nI_dec _) (by decide) rfl (fun ls hl => ?_)
        refine lv_goto (tgt := 10) hx hb dX1_valueOf_63 (by decide) ?_
        exact ih10 (H, locs, ls) ⟨⟨hv_5.trans (by rw [lastL_s, if_neg (by simp [cVaQ, c_10, c_14])]), by omega⟩, hB, lv_sub hl [2, 3, 4, 0] rfl⟩
      · refine lv_aload hx hb dX1_valueOf_49 (lv_at hl 0 rfl) ?_
        refine w_getN (v := .ref (sA u 11 (gN u.2.1 30 (w) (d_4)))) (fk := 4) hF hB ⟨(hI.k8 (hI.o3 (by omega) (show d_4 < gN u.2.1 3 (3 + w) 0 by omega))), rfl⟩ (cn_8 env u (gN u.2.1 30 (w) (d_4))) rfl in_X3 (by decide) tw_1_225 rfl rfl dX1_valueOf_51 ?_
        refine lv_aload_n hx hb dX1_valueOf_54 rfl (lv_at hl 2 rfl) ?_
        refine w_getN (v := .int (nI (k))) (fk := 0) hF hB ha1 (cn_4 env u (k)) rfl in_X2 (by decide) tw_1_128 rfl rfl dX1_valueOf_55 ?_
        refine w_lald (v := .long (gJ u.2.1 11 (gN u.2.1 30 (w) (d_4)) (k))) hF hB ⟨(hI.k11 (hI.k8 (hI.o3 (by omega) (show d_4 < gN u.2.1 3 (3 + w) 0 by omega)))), rfl⟩ (cn_11 env u (gN u.2.1 30 (w) (d_4))) (by omega) rfl (by decide) dX1_valueOf_58 ?_
        exact w_lret (v := gJ u.2.1 11 (gN u.2.1 30 (w) (d_4)) (k)) hF hr hlocks hB (⟨rfl, by rw [cValueOf, hv_5, lastL_s, if_pos (by simp [cVaQ, c_10, c_14])]; rfl⟩) dX1_valueOf_59
set_option maxHeartbeats 4000000 in
set_option maxRecDepth 100000 in
theorem c_X1_countOf (l : Launch) (env : Ev) (s0 : Nat) (X : va_W) (u : St) (a0 : Nat) (w : Nat) (ha0 : At u 5 (w) a0) (sl : Nat) (a2 : Nat) (kq kr : Nat) (ha2 : At u kq kr a2) (hI : SI env u) (hNb : Nb u.2.1) (hw : w < 4) (hq : kq = 6 ∨ kq = 9) (hx96 : sl < 96) : Met l yX1_countOf [Cond.code yX1_countOf cX1_countOf 7 (some .long)] { frames := 3, cells := 0, slots := 0, locals := 64 } (va_Pc [.ref (a0), .int (nI (sl)), .ref (a2)] (Pr env s0 X u)) (va_Ql (fun r u' => u = u' ∧ r = cCountOf u.2.1 w sl kq kr) (Po env s0 X) (fun q => s0 ≤ q)) 0 0 (fun q => s0 ≤ q) := by
  refine Met.ofW (cc := cX1_countOf) (maxL := 7) (ret := (some .long)) (by decide) rfl ?_
  intro p e s m args below meth c s₁ B hml hv
  obtain ⟨rfl, hv⟩ := hv
  have hx := B.exec
  have hb := B.bytes
  have hr := B.returns
  have hts : ∀ ww ∈ TT, ww.before #[.ref (a0), .int (nI (sl)), .ref (a2)] s = true := fun ww hw => hv.2.1 ww hw _
  have hown : s.vm.findClass RX1 = some m.cls := findClass_of_methodNamed B.named
  have hlocks := B.notSynchronized
  have hF : CallFix p m c cX1_countOf 7 s #[.ref (a0), .int (nI (sl)), .ref (a2)] TT RX1 := ⟨hx, hb, hml, hown, hts⟩
  have hB := Bd.entry hv
  have hl := lv_entry ([.ref (a0), .int (nI (sl)), .ref (a2)]) (n := 7) (Nat.le_of_ble_eq_true rfl)
  rw [lg_entry_eq]
  generalize (lg_sl ([.ref (a0), .int (nI (sl)), .ref (a2)]) ++ List.replicate (7 - (lg_sl ([.ref (a0), .int (nI (sl)), .ref (a2)])).length) Slot.unset).toArray = ls at hl ⊢
  have hl : lv_has ls 7 [(0, .ref (a0)), (1, .int (nI (sl))), (2, .ref (a2))] := hl
  refine lv_lconst (v := 0) hx hb dX1_countOf_0 (by decide) ?_
  refine lv_lstore_n (lv' := [(3, .long (0)), (0, .ref (a0)), (1, .int (nI (sl))), (2, .ref (a2))]) hx hb dX1_countOf_1 rfl hl (by decide) rfl (fun ls hl => ?_)
  refine lv_iconst (v := nI 0) hx hb dX1_countOf_2 (by decide) ?_
  refine lv_istore (lv' := [(5, .int (nI (0))), (3, .long (0)), (0, .ref (a0)), (1, .int (nI (sl))), (2, .ref (a2))]) hx hb dX1_countOf_3 hl (by decide) rfl (fun ls hl => ?_)
  have ea_2 : sumL (cCoV u.2.1 w sl kq kr) (0) = 0 := by simp [allN_0, anyN_0, sumL_0, cCoV] <;> omega
  refine wloopH (σ := Heap × List Loc × Array Slot) (G := fun x => W p l e _ s m _ below meth c x.1 x.2.1 _ _ _ (F0 m 5 x.2.2 [])) (P := fun i_1 x => (True) ∧ Bd env s0 X u s x.1 x.2.1 ∧ lv_has x.2.2 7 [(0, .ref (a0)), (1, .int (nI (sl))), (2, .ref (a2)), (3, .long (sumL (cCoV u.2.1 w sl kq kr) (i_1))), (5, .int (nI (i_1)))]) (N := gN u.2.1 3 (3 + w) 0) ?_ 0 (_, _, ls) (Nat.zero_le _) ⟨trivial, hB, by show lv_has ls 7 [(0, .ref (a0)), (1, .int (nI (sl))), (2, .ref (a2)), (3, .long (sumL (cCoV u.2.1 w sl kq kr) (0))), (5, .int (nI (0)))]; rw [ea_2]; exact lv_sub hl [2, 3, 4, 1, 0] rfl⟩
  rintro i_1 ⟨H, locs, ls⟩ hi_3 ⟨hv_4, hB, hl⟩ ih5
  replace hB : Bd env s0 X u s H locs := hB
  replace hl : lv_has ls 7 [(0, .ref (a0)), (1, .int (nI (sl))), (2, .ref (a2)), (3, .long (sumL (cCoV u.2.1 w sl kq kr) (i_1))), (5, .int (nI (i_1)))] := hl
  show W p l e _ s m _ below meth c H locs _ _ _ (F0 m 5 ls [])
  have := hNb 3 (3 + w) 0
  refine lv_iload hx hb dX1_countOf_5 (lv_at hl 4 rfl) ?_
  refine lv_aload_n hx hb dX1_countOf_7 rfl (lv_at hl 0 rfl) ?_
  refine w_get (v := .ref (sA u 2 (3 + (w)))) (fk := 2) hF hB ha0 (cn_5 env u (w)) rfl in_X1 (by decide) tw_1_68 rfl rfl dX1_countOf_8 ?_
  refine w_ci (r_V (As := []) (rest := [.int (nI (i_1))]) hF hB (c_Jx4a65c_size_8abf5 l env s0 X u (sA u 2 (3 + (w))) (3 + (w)) (⟨(hI.k2 (by have := (by omega); omega)), rfl⟩) ) cv_Jx4a65c_size_8abf5 tw_2_68 ⟨rfl, rfl, by decide, by decide⟩ (hB.recv ⟨(hI.k2 (by have := (by omega); omega)), rfl⟩ (cn_2 env u (3 + (w))) rfl) rfl hl.1 rfl (lv_room (Nat.le_of_ble_eq_true rfl)) dX1_countOf_11 ⟨Nat.le_of_ble_eq_true rfl, Nat.le_of_ble_eq_true rfl⟩) hB (fun r_5 u_7 H locs hq_6 hB => ?_)
  obtain ⟨rfl, rfl⟩ := hq_6
  refine w_icge_n (tgt := 56) (by omega) (by have := hNb 3 (3 + (w)) 0; omega) hx hb dX1_countOf_14 (by decide) (fun c_8 => ?_) (fun c_8 => ?_)
  · refine lv_lload_n hx hb dX1_countOf_56 rfl (lv_at hl 3 rfl) ?_
    exact w_lret (v := sumL (cCoV u.2.1 w sl kq kr) (i_1)) hF hr hlocks hB (⟨rfl, by rw [show i_1 = gN u.2.1 3 (3 + w) 0 by omega]; rfl⟩) dX1_countOf_57
  · refine lv_aload_n hx hb dX1_countOf_17 rfl (lv_at hl 0 rfl) ?_
    refine w_get (v := .ref (sA u 2 (3 + (w)))) (fk := 2) hF hB ha0 (cn_5 env u (w)) rfl in_X1 (by decide) tw_1_68 rfl rfl dX1_countOf_18 ?_
    refine lv_iload hx hb dX1_countOf_21 (lv_at hl 4 rfl) ?_
    refine w_cq (r_V (As := [.int (nI (i_1))]) (rest := []) hF hB (c_Jx4a65c_get_915e3 l env s0 X u (sA u 2 (3 + (w))) (3 + (w)) (⟨(hI.k2 (by have := (by omega); omega)), rfl⟩) (i_1) hNb (hI.get (by have := (by omega); omega) c_8).1 c_8 (hI.get (by have := (by omega); omega) c_8).2.1 (hI.get (by have := (by omega); omega) c_8).2.2) cv_Jx4a65c_get_915e3 tw_2_69 ⟨rfl, rfl, by decide, by decide⟩ (hB.recv ⟨(hI.k2 (by have := (by omega); omega)), rfl⟩ (cn_2 env u (3 + (w))) rfl) rfl hl.1 rfl (lv_room (by decide)) dX1_countOf_23 ⟨Nat.le_of_ble_eq_true rfl, Nat.le_of_ble_eq_true rfl⟩) hB (fun r_9 u_11 H locs hq_10 hB => ?_)
    obtain ⟨rfl, rfl⟩ := hq_10
    rw [hI.e3 (by omega) c_8]
    show W p l e _ s m _ below meth c H locs _ _ _ (F0 m _ ls [.ref (sA u 8 (gN u.2.1 30 (w) (i_1)))])
    refine w_cast hF hB tw_2_70 tw_4_104 (hB.recv ⟨(hI.k8 (hI.o3 (by omega) c_8)), rfl⟩ (cn_8 env u (gN u.2.1 30 (w) (i_1))) rfl) dX1_countOf_26 ?_
    refine lv_astore (lv' := [(6, .ref (sA u 8 (gN u.2.1 30 (w) (i_1)))), (0, .ref (a0)), (1, .int (nI (sl))), (2, .ref (a2)), (3, .long (sumL (cCoV u.2.1 w sl kq kr) (i_1))), (5, .int (nI (i_1)))]) hx hb dX1_countOf_29 hl (by decide) rfl (fun ls hl => ?_)
    refine lv_aload hx hb dX1_countOf_31 (lv_at hl 0 rfl) ?_
    refine lv_aload_n hx hb dX1_countOf_33 rfl (lv_at hl 3 rfl) ?_
    refine w_ci (r_VN (As := [.ref (a2)]) (rest := []) hF hB (c_X3_isWithin l env s0 X u (sA u 8 (gN u.2.1 30 (w) (i_1))) (gN u.2.1 30 (w) (i_1)) (⟨(hI.k8 (hI.o3 (by omega) c_8)), rfl⟩) (a2) (kq) (kr) (ha2) hI hNb hq) cv_X3_isWithin tw_2_71 ⟨rfl, rfl, by decide, by decide⟩ (hB.recv ⟨(hI.k8 (hI.o3 (by omega) c_8)), rfl⟩ (cn_8 env u (gN u.2.1 30 (w) (i_1))) rfl) rfl hl.1 rfl (lv_room (by decide)) dX1_countOf_34 ⟨Nat.le_of_ble_eq_true rfl, Nat.le_of_ble_eq_true rfl⟩) hB (fun r_12 u_14 H locs hq_13 hB => ?_)
    obtain ⟨rfl, rfl⟩ := hq_13
    refine w_ifeq_b (tgt := 50) hx hb dX1_countOf_37 (by decide) (fun c_15 => ?_) (fun c_15 => ?_)
    · refine lv_iinc (v := nI (i_1 + 1)) (lv' := [(5, .int (nI (i_1 + 1))), (6, .ref (sA u 8 (gN u.2.1 30 (w) (i_1)))), (0, .ref (a0)), (1, .int (nI (sl))), (2, .ref (a2)), (3, .long (sumL (cCoV u.2.1 w sl kq kr) (i_1)))]) hx hb dX1_countOf_50 hl (k := 5) rfl (nI_add _ _) (by decide) rfl (fun ls hl => ?_)
      refine lv_goto (tgt := 5) hx hb dX1_countOf_53 (by decide) ?_
      have ea_16 : sumL (cCoV u.2.1 w sl kq kr) (i_1 + 1) = sumL (cCoV u.2.1 w sl kq kr) (i_1) := by first | (simp [allN_s, anyN_s, cntN_s, sumL_s, Int64.add_assoc, cCoV, c_8, c_15] <;> omega) | grind [allN_s, anyN_s, cntN_s, sumL_s, Int64.add_assoc, cCoV]
      exact ih5 (H, locs, ls) (by omega) ⟨trivial, hB, by show lv_has ls 7 [(0, .ref (a0)), (1, .int (nI (sl))), (2, .ref (a2)), (3, .long (sumL (cCoV u.2.1 w sl kq kr) (i_1 + 1))), (5, .int (nI (i_1 + 1)))]; rw [ea_16]; exact lv_sub hl [2, 3, 4, 5, 0] rfl⟩
    · refine lv_lload_n hx hb dX1_countOf_40 rfl (lv_at hl 4 rfl) ?_
      refine lv_aload hx hb dX1_countOf_41 (lv_at hl 0 rfl) ?_
      refine w_getN (v := .ref (sA u 12 (gN u.2.1 30 (w) (i_1)))) (fk := 5) hF hB ⟨(hI.k8 (hI.o3 (by omega) c_8)), rfl⟩ (cn_8 env u (gN u.2.1 30 (w) (i_1))) rfl in_X3 (by decide) tw_1_228 rfl rfl dX1_countOf_43 ?_
      refine lv_iload_n hx hb dX1_countOf_46 rfl (lv_at hl 2 rfl) ?_
      refine w_lald (v := .long (gJ u.2.1 12 (gN u.2.1 30 (w) (i_1)) (sl))) hF hB ⟨(hI.k12 (hI.k8 (hI.o3 (by omega) c_8))), rfl⟩ (cn_12 env u (gN u.2.1 30 (w) (i_1))) (by omega) rfl (by decide) dX1_countOf_47 ?_
      refine lv_ladd hx hb dX1_countOf_48 ?_
      refine lv_lstore_n (lv' := [(3, .long ((sumL (cCoV u.2.1 w sl kq kr) (i_1)) + (gJ u.2.1 12 (gN u.2.1 30 (w) (i_1)) (sl)))), (6, .ref (sA u 8 (gN u.2.1 30 (w) (i_1)))), (0, .ref (a0)), (1, .int (nI (sl))), (2, .ref (a2)), (5, .int (nI (i_1)))]) hx hb dX1_countOf_49 rfl hl (by decide) rfl (fun ls hl => ?_)
      refine lv_iinc (v := nI (i_1 + 1)) (lv' := [(5, .int (nI (i_1 + 1))), (3, .long ((sumL (cCoV u.2.1 w sl kq kr) (i_1)) + (gJ u.2.1 12 (gN u.2.1 30 (w) (i_1)) (sl)))), (6, .ref (sA u 8 (gN u.2.1 30 (w) (i_1)))), (0, .ref (a0)), (1, .int (nI (sl))), (2, .ref (a2))]) hx hb dX1_countOf_50 hl (k := 5) rfl (nI_add _ _) (by decide) rfl (fun ls hl => ?_)
      refine lv_goto (tgt := 5) hx hb dX1_countOf_53 (by decide) ?_
      have ea_17 : sumL (cCoV u.2.1 w sl kq kr) (i_1 + 1) = (sumL (cCoV u.2.1 w sl kq kr) (i_1)) + (gJ u.2.1 12 (gN u.2.1 30 (w) (i_1)) (sl)) := by first | (simp [allN_s, anyN_s, cntN_s, sumL_s, Int64.add_assoc, cCoV, c_8, c_15] <;> omega) | grind [allN_s, anyN_s, cntN_s, sumL_s, Int64.add_assoc, cCoV]
      exact ih5 (H, locs, ls) (by omega) ⟨trivial, hB, by show lv_has ls 7 [(0, .ref (a0)), (1, .int (nI (sl))), (2, .ref (a2)), (3, .long (sumL (cCoV u.2.1 w sl kq kr) (i_1 + 1))), (5, .int (nI (i_1 + 1)))]; rw [ea_17]; exact lv_sub hl [3, 4, 5, 1, 0] rfl⟩
set_option maxHeartbeats 4000000 in
set_option maxRecDepth 100000 in
theorem c_X1_canTake (l : Launch) (env : Ev) (s0 : Nat) (X : va_W) (u : St) (a0 : Nat) (w : Nat) (ha0 : At u 5 (w) a0) (a1 : Nat) (t : Nat) (ha1 : At u 8 (t) a1) (hI : SI env u) (hNb : Nb u.2.1) (hw : w < 4) : Met l yX1_canTake [Cond.code yX1_canTake cX1_canTake 3 (some .boolean)] { frames := 0, cells := 0, slots := 0, locals := 0 } (va_Pc [.ref (a0), .ref (a1)] (Pr env s0 X u)) (va_Qi (fun r u' => u = u' ∧ r = b2i (cCanTake u.2.1 w t)) (Po env s0 X) (fun q => s0 ≤ q)) 0 0 (fun q => s0 ≤ q) := by
  refine Met.ofW (cc := cX1_canTake) (maxL := 3) (ret := (some .boolean)) (by decide) rfl ?_
  intro p e s m args below meth c s₁ B hml hv
  obtain ⟨rfl, hv⟩ := hv
  have hx := B.exec
  have hb := B.bytes
  have hr := B.returns
  have hts : ∀ ww ∈ TT, ww.before #[.ref (a0), .ref (a1)] s = true := fun ww hw => hv.2.1 ww hw _
  have hown : s.vm.findClass RX1 = some m.cls := findClass_of_methodNamed B.named
  have hlocks := B.notSynchronized
  have hF : CallFix p m c cX1_canTake 3 s #[.ref (a0), .ref (a1)] TT RX1 := ⟨hx, hb, hml, hown, hts⟩
  have hB := Bd.entry hv
  have hl := lv_entry ([.ref (a0), .ref (a1)]) (n := 3) (Nat.le_of_ble_eq_true rfl)
  rw [lg_entry_eq]
  generalize (lg_sl ([.ref (a0), .ref (a1)]) ++ List.replicate (3 - (lg_sl ([.ref (a0), .ref (a1)])).length) Slot.unset).toArray = ls at hl ⊢
  have hl : lv_has ls 3 [(0, .ref (a0)), (1, .ref (a1))] := hl
  have hs := (hI.tx ha1.1).2
  refine lv_aload_n hx hb dX1_canTake_0 rfl (lv_at hl 0 rfl) ?_
  refine w_get (v := .ref (sA u 6 (w))) (fk := 1) hF hB ha0 (cn_5 env u (w)) rfl in_X1 (by decide) tw_1_65 rfl rfl dX1_canTake_1 ?_
  refine lv_aload_n hx hb dX1_canTake_4 rfl (lv_at hl 1 rfl) ?_
  refine w_getN (v := .ref (sA u 5 (gN u.2.1 26 (t) 0))) (fk := 1) hF hB ha1 (cn_8 env u (t)) rfl in_X3 (by decide) tw_1_216 rfl rfl dX1_canTake_5 ?_
  refine w_get (v := .int (nI (gN u.2.1 26 (t) 0))) (fk := 0) hF hB ⟨(hI.k5 (hI.tx ha1.1).2), rfl⟩ (cn_5 env u (gN u.2.1 26 (t) 0)) rfl in_X1 (by decide) tw_1_62 rfl rfl dX1_canTake_8 ?_
  refine w_iald (v := .int (nI (gN u.2.1 6 (w) (gN u.2.1 26 (t) 0)))) hF hB ⟨(hI.k6 (by omega)), rfl⟩ (cn_6 env u (w)) (hI.tx ha1.1).2 rfl (by decide) dX1_canTake_11 ?_
  refine lv_aload_n hx hb dX1_canTake_12 rfl (lv_at hl 1 rfl) ?_
  refine w_getN (v := .int (nI (gN u.2.1 17 (t) (0)))) (fk := 10) hF hB ha1 (cn_8 env u (t)) rfl in_X3 (by decide) tw_1_238 rfl rfl dX1_canTake_13 ?_
  refine lv_iconst (v := nI 1) hx hb dX1_canTake_16 (by decide) ?_
  refine lv_isub hx hb dX1_canTake_17 ?_
  refine lv_icmp_ge (tgt := 23) hx hb dX1_canTake_18 (by decide) (fun c_1 => ?_) (fun c_1 => ?_)
  · have hc_2 := mt (nI_lt_sub1 (hNb 6 _ _) (hNb 17 _ _)).mpr (Int32.not_lt.mpr c_1)
    refine lv_iconst (v := nI 0) hx hb dX1_canTake_23 (by decide) ?_
    refine lv_istore_n (lv' := [(2, .int (nI (0))), (0, .ref (a0)), (1, .ref (a1))]) hx hb dX1_canTake_24 rfl hl (by decide) rfl (fun ls hl => ?_)
    refine wloopH (σ := Heap × List Loc × Array Slot) (G := fun x => W p l e _ s m _ below meth c x.1 x.2.1 _ _ _ (F0 m 25 x.2.2 [])) (P := fun i_3 x => (∀ j, j < i_3 → cTkQ u.2.1 w t j = true) ∧ Bd env s0 X u s x.1 x.2.1 ∧ lv_has x.2.2 3 [(0, .ref (a0)), (1, .ref (a1)), (2, .int (nI (i_3)))]) (N := 4) ?_ 0 (_, _, ls) (Nat.zero_le _) ⟨(fun q h => absurd h (Nat.not_lt_zero q)), hB, lv_sub hl [1, 2, 0] rfl⟩
    rintro i_3 ⟨H, locs, ls⟩ hi_4 ⟨hv_5, hB, hl⟩ ih25
    replace hB : Bd env s0 X u s H locs := hB
    replace hl : lv_has ls 3 [(0, .ref (a0)), (1, .ref (a1)), (2, .int (nI (i_3)))] := hl
    show W p l e _ s m _ below meth c H locs _ _ _ (F0 m 25 ls [])
    refine lv_iload_n hx hb dX1_canTake_25 rfl (lv_at hl 2 rfl) ?_
    refine lv_iconst (v := nI 4) hx hb dX1_canTake_26 (by decide) ?_
    refine w_icge_n (tgt := 53) (by omega) (by decide) hx hb dX1_canTake_27 (by decide) (fun c_6 => ?_) (fun c_6 => ?_)
    · refine lv_iconst (v := nI 1) hx hb dX1_canTake_53 (by decide) ?_
      exact w_zret (v := nI 1) hF hr rfl hlocks hB (⟨rfl, b2i_c1 (by rw [cCanTake, allN_t (fun q hq => hv_5 q (by omega))]; simp <;> omega)⟩) dX1_canTake_54
    · refine lv_aload_n hx hb dX1_canTake_30 rfl (lv_at hl 0 rfl) ?_
      refine w_get (v := .ref (sA u 6 (w))) (fk := 1) hF hB ha0 (cn_5 env u (w)) rfl in_X1 (by decide) tw_1_65 rfl rfl dX1_canTake_31 ?_
      refine lv_iload_n hx hb dX1_canTake_34 rfl (lv_at hl 2 rfl) ?_
      refine w_iald (v := .int (nI (gN u.2.1 6 (w) (i_3)))) hF hB ⟨(hI.k6 (by omega)), rfl⟩ (cn_6 env u (w)) (by omega) rfl (by decide) dX1_canTake_35 ?_
      refine lv_aload_n hx hb dX1_canTake_36 rfl (lv_at hl 1 rfl) ?_
      refine w_getN (v := .ref (sA u 9 (t))) (fk := 2) hF hB ha1 (cn_8 env u (t)) rfl in_X3 (by decide) tw_1_219 rfl rfl dX1_canTake_37 ?_
      refine lv_iload_n hx hb dX1_canTake_40 rfl (lv_at hl 2 rfl) ?_
      refine w_iald (v := .int (nI (gN u.2.1 9 (t) (i_3)))) hF hB ⟨(hI.k9 ha1.1), rfl⟩ (cn_9 env u (t)) (by omega) rfl (by decide) dX1_canTake_41 ?_
      refine w_icge_n (tgt := 47) (by have := hNb 6 (w) (i_3); omega) (by have := hNb 9 (t) (i_3); omega) hx hb dX1_canTake_42 (by decide) (fun c_7 => ?_) (fun c_7 => ?_)
      · refine lv_iinc (v := nI (i_3 + 1)) (lv' := [(2, .int (nI (i_3 + 1))), (0, .ref (a0)), (1, .ref (a1))]) hx hb dX1_canTake_47 hl (k := 2) rfl (nI_add _ _) (by decide) rfl (fun ls hl => ?_)
        refine lv_goto (tgt := 25) hx hb dX1_canTake_50 (by decide) ?_
        exact ih25 (H, locs, ls) (by omega) ⟨lt_st hv_5 (by simp [cTkQ] <;> omega), hB, by exact lv_sub hl [1, 2, 0] rfl⟩
      · refine lv_iconst (v := nI 0) hx hb dX1_canTake_45 (by decide) ?_
        exact w_zret (v := nI 0) hF hr rfl hlocks hB (⟨rfl, b2i_c0 (by rw [cCanTake, allN_f c_6 (by simp [cTkQ] <;> omega)]; simp)⟩) dX1_canTake_46
  · have hc_8 := (nI_lt_sub1 (hNb 6 _ _) (hNb 17 _ _)).mp (Int32.not_le.mp c_1)
    refine lv_iconst (v := nI 0) hx hb dX1_canTake_21 (by decide) ?_
    exact w_zret (v := nI 0) hF hr rfl hlocks hB (⟨rfl, b2i_c0 (by simp [cCanTake, hc_8])⟩) dX1_canTake_22
set_option maxHeartbeats 4000000 in
set_option maxRecDepth 100000 in
theorem c_X0_canCome (l : Launch) (env : Ev) (s0 : Nat) (X : va_W) (u : St) (a0 : Nat) (q : Nat) (ha0 : At u 14 (q) a0) (hI : SI env u) (hNb : Nb u.2.1) : Met l yX0_canCome [Cond.code yX0_canCome cX0_canCome 1 (some .boolean)] { frames := 1, cells := 0, slots := 0, locals := 22 } (va_Pc [.ref (a0)] (Pr env s0 X u)) (va_Qi (fun r u' => u = u' ∧ r = b2i (cCanCome u.2.1 q)) (Po env s0 X) (fun q => s0 ≤ q)) 0 0 (fun q => s0 ≤ q) := by
  refine Met.ofW (cc := cX0_canCome) (maxL := 1) (ret := (some .boolean)) (by decide) rfl ?_
  intro p e s m args below meth c s₁ B hml hv
  obtain ⟨rfl, hv⟩ := hv
  have hx := B.exec
  have hb := B.bytes
  have hr := B.returns
  have hts : ∀ ww ∈ TT, ww.before #[.ref (a0)] s = true := fun ww hw => hv.2.1 ww hw _
  have hown : s.vm.findClass RX0 = some m.cls := findClass_of_methodNamed B.named
  have hlocks := B.notSynchronized
  have hF : CallFix p m c cX0_canCome 1 s #[.ref (a0)] TT RX0 := ⟨hx, hb, hml, hown, hts⟩
  have hB := Bd.entry hv
  have hl := lv_entry ([.ref (a0)]) (n := 1) (Nat.le_of_ble_eq_true rfl)
  rw [lg_entry_eq]
  generalize (lg_sl ([.ref (a0)]) ++ List.replicate (1 - (lg_sl ([.ref (a0)])).length) Slot.unset).toArray = ls at hl ⊢
  have hl : lv_has ls 1 [(0, .ref (a0))] := hl
  refine lv_aload_n hx hb dX0_canCome_0 rfl (lv_at hl 0 rfl) ?_
  refine w_get (v := .int (nI (gN u.2.1 21 (q) (0)))) (fk := 0) hF hB ha0 (cn_14 env u (q)) rfl in_X0 (by decide) tw_2_155 rfl rfl dX0_canCome_1 ?_
  refine lv_iconst (v := nI 4) hx hb dX0_canCome_4 (by decide) ?_
  refine w_icne_n (tgt := 22) (by have := hNb 21 (q) (0); omega) (by decide) hx hb dX0_canCome_5 (by decide) (fun c_1 => ?_) (fun c_1 => ?_)
  · refine lv_iconst (v := nI 1) hx hb dX0_canCome_22 (by decide) ?_
    refine lv_goto (tgt := 27) hx hb dX0_canCome_23 (by decide) ?_
    exact w_zret (v := nI 1) hF hr rfl hlocks hB (⟨rfl, b2i_c1 (by simp [cCanCome, c_1] <;> omega)⟩) dX0_canCome_27
  · refine lv_aload_n hx hb dX0_canCome_8 rfl (lv_at hl 0 rfl) ?_
    refine w_get (v := .ref (sA u 5 (gN u.2.1 23 (q) 0))) (fk := 2) hF hB ha0 (cn_14 env u (q)) rfl in_X0 (by decide) tw_2_159 rfl rfl dX0_canCome_9 ?_
    refine lv_aload_n hx hb dX0_canCome_12 rfl (lv_at hl 0 rfl) ?_
    refine w_get (v := .ref (sA u 8 (gN u.2.1 24 (q) 0))) (fk := 3) hF hB ha0 (cn_14 env u (q)) rfl in_X0 (by decide) tw_2_161 rfl rfl dX0_canCome_13 ?_
    refine w_ci (r_VN (As := [.ref (sA u 8 (gN u.2.1 24 (q) 0))]) (rest := []) hF hB (c_X1_canTake l env s0 X u (sA u 5 (gN u.2.1 23 (q) 0)) (gN u.2.1 23 (q) 0) (⟨(hI.k5 (hI.ms ha0.1).2.1), rfl⟩) (sA u 8 (gN u.2.1 24 (q) 0)) (gN u.2.1 24 (q) 0) (⟨(hI.k8 (hI.ms ha0.1).2.2), rfl⟩) hI hNb (hI.ms ha0.1).2.1) cv_X1_canTake tw_2_209 ⟨rfl, rfl, by decide, by decide⟩ (hB.recv ⟨(hI.k5 (hI.ms ha0.1).2.1), rfl⟩ (cn_5 env u (gN u.2.1 23 (q) 0)) rfl) rfl hl.1 rfl (lv_room (by decide)) dX0_canCome_16 ⟨Nat.le_of_ble_eq_true rfl, Nat.le_of_ble_eq_true rfl⟩) hB (fun r_2 u_4 H locs hq_3 hB => ?_)
    obtain ⟨rfl, rfl⟩ := hq_3
    refine w_ifeq_b (tgt := 26) hx hb dX0_canCome_19 (by decide) (fun c_5 => ?_) (fun c_5 => ?_)
    · refine lv_iconst (v := nI 0) hx hb dX0_canCome_26 (by decide) ?_
      exact w_zret (v := nI 0) hF hr rfl hlocks hB (⟨rfl, b2i_c0 (by simp [cCanCome, c_1, c_5] <;> omega)⟩) dX0_canCome_27
    · refine lv_iconst (v := nI 1) hx hb dX0_canCome_22 (by decide) ?_
      refine lv_goto (tgt := 27) hx hb dX0_canCome_23 (by decide) ?_
      exact w_zret (v := nI 1) hF hr rfl hlocks hB (⟨rfl, b2i_c1 (by simp [cCanCome, c_1, c_5] <;> omega)⟩) dX0_canCome_27

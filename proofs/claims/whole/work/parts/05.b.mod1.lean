set_option maxHeartbeats 4000000 in
set_option maxRecDepth 100000 in
theorem c_X5_in (l : Launch) (env : Ev) (s0 : Nat) (X : va_W) (u : St) (v : Int64) (x : Int64) (y : Int64)  : Met l yX5_in [Cond.code yX5_in cX5_in 6 (some .boolean)] { frames := 0, cells := 0, slots := 0, locals := 0 } (va_Pc [.long (v), .long (x), .long (y)] (Pr env s0 X u)) (va_Qi (fun r u' => u = u' ∧ r = b2i (inL v x y)) (Po env s0 X) (fun q => s0 ≤ q)) 0 0 (fun q => s0 ≤ q) := by
  refine Met.ofW (cc := cX5_in) (maxL := 6) (ret := (some .boolean)) (by decide) rfl ?_
  intro p e s m args below meth c s₁ B hml hv
  obtain ⟨rfl, hv⟩ := hv
  have hx := B.exec
  have hb := B.bytes
  have hr := B.returns
  have hts : ∀ ww ∈ TT, ww.before #[.long (v), .long (x), .long (y)] s = true := fun ww hw => hv.2.1 ww hw _
  have hown : s.vm.findClass RX5 = some m.cls := findClass_of_methodNamed B.named
  have hlocks := B.notSynchronized
  have hF : CallFix p m c cX5_in 6 s #[.long (v), .long (x), .long (y)] TT RX5 := ⟨hx, hb, hml, hown, hts⟩
  have hB := Bd.entry hv
  have hl := lv_entry ([.long (v), .long (x), .long (y)]) (n := 6) (Nat.le_of_ble_eq_true rfl)
  rw [lg_entry_eq]
  generalize (lg_sl ([.long (v), .long (x), .long (y)]) ++ List.replicate (6 - (lg_sl ([.long (v), .long (x), .long (y)])).length) Slot.unset).toArray = ls at hl ⊢
  have hl : lv_has ls 6 [(0, .long (v)), (2, .long (x)), (4, .long (y))] := hl
  refine lv_lload_n hx hb dX5_in_0 rfl (lv_at hl 0 rfl) ?_
  refine lv_lload_n hx hb dX5_in_1 rfl (lv_at hl 1 rfl) ?_
  refine W.lcmp hx hb dX5_in_2 ?_
  refine lv_if_lt (tgt := 17) hx hb dX5_in_3 (by decide) (fun c_1 => ?_) (fun c_1 => ?_)
  · refine lv_iconst (v := nI 0) hx hb dX5_in_17 (by decide) ?_
    exact w_zret (v := nI 0) hF hr rfl hlocks hB (⟨rfl, by rw [inL_f1 c_1]; rfl⟩) dX5_in_18
  · refine lv_lload_n hx hb dX5_in_6 rfl (lv_at hl 0 rfl) ?_
    refine lv_lload hx hb dX5_in_7 (lv_at hl 2 rfl) ?_
    refine W.lcmp hx hb dX5_in_9 ?_
    refine lv_if_gt (tgt := 17) hx hb dX5_in_10 (by decide) (fun c_2 => ?_) (fun c_2 => ?_)
    · refine lv_iconst (v := nI 0) hx hb dX5_in_17 (by decide) ?_
      exact w_zret (v := nI 0) hF hr rfl hlocks hB (⟨rfl, by rw [inL_f2 c_2]; rfl⟩) dX5_in_18
    · refine lv_iconst (v := nI 1) hx hb dX5_in_13 (by decide) ?_
      refine lv_goto (tgt := 18) hx hb dX5_in_14 (by decide) ?_
      exact w_zret (v := nI 1) hF hr rfl hlocks hB (⟨rfl, by rw [inL_t c_1 c_2]; rfl⟩) dX5_in_18
set_option maxHeartbeats 4000000 in
set_option maxRecDepth 100000 in
theorem c_X5_isSite (l : Launch) (env : Ev) (s0 : Nat) (X : va_W) (u : St) (a0 : Nat) (_xa0 : Nat) (ha0 : At u 20 (0) a0) (v : Int32) (hM : MI u) (hNm : Nb u.2.2) : Met l yX5_isSite [Cond.code yX5_isSite cX5_isSite 2 (some .boolean)] { frames := 1, cells := 0, slots := 0, locals := 25 } (va_Pc [.ref (a0), .int (v)] (Pr env s0 X u)) (va_Qi (fun r u' => u = u' ∧ r = b2i (ix v (gN u.2.2 50 0 0)).isSome) (Po env s0 X) (fun q => s0 ≤ q)) 0 0 (fun q => s0 ≤ q) := by
  refine Met.ofW (cc := cX5_isSite) (maxL := 2) (ret := (some .boolean)) (by decide) rfl ?_
  intro p e s m args below meth c s₁ B hml hv
  obtain ⟨rfl, hv⟩ := hv
  have hx := B.exec
  have hb := B.bytes
  have hr := B.returns
  have hts : ∀ ww ∈ TT, ww.before #[.ref (a0), .int (v)] s = true := fun ww hw => hv.2.1 ww hw _
  have hown : s.vm.findClass RX5 = some m.cls := findClass_of_methodNamed B.named
  have hlocks := B.notSynchronized
  have hF : CallFix p m c cX5_isSite 2 s #[.ref (a0), .int (v)] TT RX5 := ⟨hx, hb, hml, hown, hts⟩
  have hB := Bd.entry hv
  have hl := lv_entry ([.ref (a0), .int (v)]) (n := 2) (Nat.le_of_ble_eq_true rfl)
  rw [lg_entry_eq]
  generalize (lg_sl ([.ref (a0), .int (v)]) ++ List.replicate (2 - (lg_sl ([.ref (a0), .int (v)])).length) Slot.unset).toArray = ls at hl ⊢
  have hl : lv_has ls 2 [(0, .ref (a0)), (1, .int (v))] := hl
  refine lv_iload_n hx hb dX5_isSite_0 rfl (lv_at hl 1 rfl) ?_
  refine lv_i2l hx hb dX5_isSite_1 rfl ?_
  refine lv_lconst (v := 0) hx hb dX5_isSite_2 (by decide) ?_
  refine lv_aload_n hx hb dX5_isSite_3 rfl (lv_at hl 0 rfl) ?_
  refine w_get (v := .int (nI (gN u.2.2 50 (0) (0)))) (fk := 0) hF hB ha0 (cn_20 env u (0)) rfl in_X5 (by decide) tw_3_95 rfl rfl dX5_isSite_4 ?_
  refine lv_iconst (v := nI 1) hx hb dX5_isSite_7 (by decide) ?_
  refine lv_isub hx hb dX5_isSite_8 ?_
  refine lv_i2l hx hb dX5_isSite_9 rfl ?_
  refine w_ci (r_S (As := [.long ((v).toInt64), .long (0), .long (((nI (gN u.2.2 50 (0) (0))) - (nI 1)).toInt64)]) (rest := []) hF hB (c_X5_in l env s0 X u ((v).toInt64) (0) (((nI (gN u.2.2 50 (0) (0))) - (nI 1)).toInt64) ) cs_X5_in tw_3_183 ⟨rfl, rfl, by decide, by decide⟩ rfl hl.1 rfl (lv_room (by decide)) dX5_isSite_10 ⟨Nat.le_of_ble_eq_true rfl, Nat.le_of_ble_eq_true rfl⟩) hB (fun r_1 u_3 H locs hq_2 hB => ?_)
  obtain ⟨rfl, rfl⟩ := hq_2
  exact w_zret (v := b2i (inL ((v).toInt64) (0) (((nI (gN u.2.2 50 (0) (0))) - (nI 1)).toInt64))) hF hr (b2i_nar _) hlocks hB (⟨rfl, by rw [← in_ix v (hNm 50 0 0)]⟩) dX5_isSite_13
set_option maxHeartbeats 4000000 in
set_option maxRecDepth 100000 in
theorem c_X5_isThing (l : Launch) (env : Ev) (s0 : Nat) (X : va_W) (u : St) (a0 : Nat) (_xa0 : Nat) (ha0 : At u 20 (0) a0) (v : Int32) (hM : MI u) (hNm : Nb u.2.2) : Met l yX5_isThing [Cond.code yX5_isThing cX5_isThing 2 (some .boolean)] { frames := 1, cells := 0, slots := 0, locals := 25 } (va_Pc [.ref (a0), .int (v)] (Pr env s0 X u)) (va_Qi (fun r u' => u = u' ∧ r = b2i (ix v (gN u.2.2 52 0 0)).isSome) (Po env s0 X) (fun q => s0 ≤ q)) 0 0 (fun q => s0 ≤ q) := by
  refine Met.ofW (cc := cX5_isThing) (maxL := 2) (ret := (some .boolean)) (by decide) rfl ?_
  intro p e s m args below meth c s₁ B hml hv
  obtain ⟨rfl, hv⟩ := hv
  have hx := B.exec
  have hb := B.bytes
  have hr := B.returns
  have hts : ∀ ww ∈ TT, ww.before #[.ref (a0), .int (v)] s = true := fun ww hw => hv.2.1 ww hw _
  have hown : s.vm.findClass RX5 = some m.cls := findClass_of_methodNamed B.named
  have hlocks := B.notSynchronized
  have hF : CallFix p m c cX5_isThing 2 s #[.ref (a0), .int (v)] TT RX5 := ⟨hx, hb, hml, hown, hts⟩
  have hB := Bd.entry hv
  have hl := lv_entry ([.ref (a0), .int (v)]) (n := 2) (Nat.le_of_ble_eq_true rfl)
  rw [lg_entry_eq]
  generalize (lg_sl ([.ref (a0), .int (v)]) ++ List.replicate (2 - (lg_sl ([.ref (a0), .int (v)])).length) Slot.unset).toArray = ls at hl ⊢
  have hl : lv_has ls 2 [(0, .ref (a0)), (1, .int (v))] := hl
  refine lv_iload_n hx hb dX5_isThing_0 rfl (lv_at hl 1 rfl) ?_
  refine lv_i2l hx hb dX5_isThing_1 rfl ?_
  refine lv_lconst (v := 0) hx hb dX5_isThing_2 (by decide) ?_
  refine lv_aload_n hx hb dX5_isThing_3 rfl (lv_at hl 0 rfl) ?_
  refine w_get (v := .int (nI (gN u.2.2 52 (0) (0)))) (fk := 2) hF hB ha0 (cn_20 env u (0)) rfl in_X5 (by decide) tw_3_97 rfl rfl dX5_isThing_4 ?_
  refine lv_iconst (v := nI 1) hx hb dX5_isThing_7 (by decide) ?_
  refine lv_isub hx hb dX5_isThing_8 ?_
  refine lv_i2l hx hb dX5_isThing_9 rfl ?_
  refine w_ci (r_S (As := [.long ((v).toInt64), .long (0), .long (((nI (gN u.2.2 52 (0) (0))) - (nI 1)).toInt64)]) (rest := []) hF hB (c_X5_in l env s0 X u ((v).toInt64) (0) (((nI (gN u.2.2 52 (0) (0))) - (nI 1)).toInt64) ) cs_X5_in tw_3_183 ⟨rfl, rfl, by decide, by decide⟩ rfl hl.1 rfl (lv_room (by decide)) dX5_isThing_10 ⟨Nat.le_of_ble_eq_true rfl, Nat.le_of_ble_eq_true rfl⟩) hB (fun r_1 u_3 H locs hq_2 hB => ?_)
  obtain ⟨rfl, rfl⟩ := hq_2
  exact w_zret (v := b2i (inL ((v).toInt64) (0) (((nI (gN u.2.2 52 (0) (0))) - (nI 1)).toInt64))) hF hr (b2i_nar _) hlocks hB (⟨rfl, by rw [← in_ix v (hNm 52 0 0)]⟩) dX5_isThing_13
set_option maxHeartbeats 4000000 in
set_option maxRecDepth 100000 in
theorem c_X5_is (l : Launch) (env : Ev) (s0 : Nat) (X : va_W) (u : St) (a0 : Nat) (_xa0 : Nat) (ha0 : At u 20 (0) a0) (v : Int32) (hM : MI u) (hNm : Nb u.2.2) : Met l yX5_is [Cond.code yX5_is cX5_is 2 (some .boolean)] { frames := 1, cells := 0, slots := 0, locals := 25 } (va_Pc [.ref (a0), .int (v)] (Pr env s0 X u)) (va_Qi (fun r u' => u = u' ∧ r = b2i (ix v (gN u.2.2 55 0 0)).isSome) (Po env s0 X) (fun q => s0 ≤ q)) 0 0 (fun q => s0 ≤ q) := by
  refine Met.ofW (cc := cX5_is) (maxL := 2) (ret := (some .boolean)) (by decide) rfl ?_
  intro p e s m args below meth c s₁ B hml hv
  obtain ⟨rfl, hv⟩ := hv
  have hx := B.exec
  have hb := B.bytes
  have hr := B.returns
  have hts : ∀ ww ∈ TT, ww.before #[.ref (a0), .int (v)] s = true := fun ww hw => hv.2.1 ww hw _
  have hown : s.vm.findClass RX5 = some m.cls := findClass_of_methodNamed B.named
  have hlocks := B.notSynchronized
  have hF : CallFix p m c cX5_is 2 s #[.ref (a0), .int (v)] TT RX5 := ⟨hx, hb, hml, hown, hts⟩
  have hB := Bd.entry hv
  have hl := lv_entry ([.ref (a0), .int (v)]) (n := 2) (Nat.le_of_ble_eq_true rfl)
  rw [lg_entry_eq]
  generalize (lg_sl ([.ref (a0), .int (v)]) ++ List.replicate (2 - (lg_sl ([.ref (a0), .int (v)])).length) Slot.unset).toArray = ls at hl ⊢
  have hl : lv_has ls 2 [(0, .ref (a0)), (1, .int (v))] := hl
  refine lv_iload_n hx hb dX5_is_0 rfl (lv_at hl 1 rfl) ?_
  refine lv_i2l hx hb dX5_is_1 rfl ?_
  refine lv_lconst (v := 0) hx hb dX5_is_2 (by decide) ?_
  refine lv_aload_n hx hb dX5_is_3 rfl (lv_at hl 0 rfl) ?_
  refine w_get (v := .int (nI (gN u.2.2 55 (0) (0)))) (fk := 5) hF hB ha0 (cn_20 env u (0)) rfl in_X5 (by decide) tw_3_100 rfl rfl dX5_is_4 ?_
  refine lv_iconst (v := nI 1) hx hb dX5_is_7 (by decide) ?_
  refine lv_isub hx hb dX5_is_8 ?_
  refine lv_i2l hx hb dX5_is_9 rfl ?_
  refine w_ci (r_S (As := [.long ((v).toInt64), .long (0), .long (((nI (gN u.2.2 55 (0) (0))) - (nI 1)).toInt64)]) (rest := []) hF hB (c_X5_in l env s0 X u ((v).toInt64) (0) (((nI (gN u.2.2 55 (0) (0))) - (nI 1)).toInt64) ) cs_X5_in tw_3_183 ⟨rfl, rfl, by decide, by decide⟩ rfl hl.1 rfl (lv_room (by decide)) dX5_is_10 ⟨Nat.le_of_ble_eq_true rfl, Nat.le_of_ble_eq_true rfl⟩) hB (fun r_1 u_3 H locs hq_2 hB => ?_)
  obtain ⟨rfl, rfl⟩ := hq_2
  exact w_zret (v := b2i (inL ((v).toInt64) (0) (((nI (gN u.2.2 55 (0) (0))) - (nI 1)).toInt64))) hF hr (b2i_nar _) hlocks hB (⟨rfl, by rw [← in_ix v (hNm 55 0 0)]⟩) dX5_is_13
set_option maxHeartbeats 4000000 in
set_option maxRecDepth 100000 in
theorem c_X5_isMessage (l : Launch) (env : Ev) (s0 : Nat) (X : va_W) (u : St) (a0 : Nat) (_xa0 : Nat) (ha0 : At u 20 (0) a0) (v : Int32) (hM : MI u) (hNm : Nb u.2.2) : Met l yX5_isMessage [Cond.code yX5_isMessage cX5_isMessage 2 (some .boolean)] { frames := 1, cells := 0, slots := 0, locals := 25 } (va_Pc [.ref (a0), .int (v)] (Pr env s0 X u)) (va_Qi (fun r u' => u = u' ∧ r = b2i (ix v (gN u.2.2 72 0 0)).isSome) (Po env s0 X) (fun q => s0 ≤ q)) 0 0 (fun q => s0 ≤ q) := by
  refine Met.ofW (cc := cX5_isMessage) (maxL := 2) (ret := (some .boolean)) (by decide) rfl ?_
  intro p e s m args below meth c s₁ B hml hv
  obtain ⟨rfl, hv⟩ := hv
  have hx := B.exec
  have hb := B.bytes
  have hr := B.returns
  have hts : ∀ ww ∈ TT, ww.before #[.ref (a0), .int (v)] s = true := fun ww hw => hv.2.1 ww hw _
  have hown : s.vm.findClass RX5 = some m.cls := findClass_of_methodNamed B.named
  have hlocks := B.notSynchronized
  have hF : CallFix p m c cX5_isMessage 2 s #[.ref (a0), .int (v)] TT RX5 := ⟨hx, hb, hml, hown, hts⟩
  have hB := Bd.entry hv
  have hl := lv_entry ([.ref (a0), .int (v)]) (n := 2) (Nat.le_of_ble_eq_true rfl)
  rw [lg_entry_eq]
  generalize (lg_sl ([.ref (a0), .int (v)]) ++ List.replicate (2 - (lg_sl ([.ref (a0), .int (v)])).length) Slot.unset).toArray = ls at hl ⊢
  have hl : lv_has ls 2 [(0, .ref (a0)), (1, .int (v))] := hl
  refine lv_iload_n hx hb dX5_isMessage_0 rfl (lv_at hl 1 rfl) ?_
  refine lv_i2l hx hb dX5_isMessage_1 rfl ?_
  refine lv_lconst (v := 0) hx hb dX5_isMessage_2 (by decide) ?_
  refine lv_aload_n hx hb dX5_isMessage_3 rfl (lv_at hl 0 rfl) ?_
  refine w_get (v := .int (nI (gN u.2.2 72 (0) (0)))) (fk := 22) hF hB ha0 (cn_20 env u (0)) rfl in_X5 (by decide) tw_3_117 rfl rfl dX5_isMessage_4 ?_
  refine lv_iconst (v := nI 1) hx hb dX5_isMessage_7 (by decide) ?_
  refine lv_isub hx hb dX5_isMessage_8 ?_
  refine lv_i2l hx hb dX5_isMessage_9 rfl ?_
  refine w_ci (r_S (As := [.long ((v).toInt64), .long (0), .long (((nI (gN u.2.2 72 (0) (0))) - (nI 1)).toInt64)]) (rest := []) hF hB (c_X5_in l env s0 X u ((v).toInt64) (0) (((nI (gN u.2.2 72 (0) (0))) - (nI 1)).toInt64) ) cs_X5_in tw_3_183 ⟨rfl, rfl, by decide, by decide⟩ rfl hl.1 rfl (lv_room (by decide)) dX5_isMessage_10 ⟨Nat.le_of_ble_eq_true rfl, Nat.le_of_ble_eq_true rfl⟩) hB (fun r_1 u_3 H locs hq_2 hB => ?_)
  obtain ⟨rfl, rfl⟩ := hq_2
  exact w_zret (v := b2i (inL ((v).toInt64) (0) (((nI (gN u.2.2 72 (0) (0))) - (nI 1)).toInt64))) hF hr (b2i_nar _) hlocks hB (⟨rfl, by rw [← in_ix v (hNm 72 0 0)]⟩) dX5_isMessage_13
set_option maxHeartbeats 4000000 in
set_option maxRecDepth 100000 in
theorem c_X5_isElement (l : Launch) (env : Ev) (s0 : Nat) (X : va_W) (u : St) (v : Int32)  : Met l yX5_isElement [Cond.code yX5_isElement cX5_isElement 1 (some .boolean)] { frames := 1, cells := 0, slots := 0, locals := 25 } (va_Pc [.int (v)] (Pr env s0 X u)) (va_Qi (fun r u' => u = u' ∧ r = b2i (ix v 8).isSome) (Po env s0 X) (fun q => s0 ≤ q)) 0 0 (fun q => s0 ≤ q) := by
  refine Met.ofW (cc := cX5_isElement) (maxL := 1) (ret := (some .boolean)) (by decide) rfl ?_
  intro p e s m args below meth c s₁ B hml hv
  obtain ⟨rfl, hv⟩ := hv
  have hx := B.exec
  have hb := B.bytes
  have hr := B.returns
  have hts : ∀ ww ∈ TT, ww.before #[.int (v)] s = true := fun ww hw => hv.2.1 ww hw _
  have hown : s.vm.findClass RX5 = some m.cls := findClass_of_methodNamed B.named
  have hlocks := B.notSynchronized
  have hF : CallFix p m c cX5_isElement 1 s #[.int (v)] TT RX5 := ⟨hx, hb, hml, hown, hts⟩
  have hB := Bd.entry hv
  have hl := lv_entry ([.int (v)]) (n := 1) (Nat.le_of_ble_eq_true rfl)
  rw [lg_entry_eq]
  generalize (lg_sl ([.int (v)]) ++ List.replicate (1 - (lg_sl ([.int (v)])).length) Slot.unset).toArray = ls at hl ⊢
  have hl : lv_has ls 1 [(0, .int (v))] := hl
  refine lv_iload_n hx hb dX5_isElement_0 rfl (lv_at hl 0 rfl) ?_
  refine lv_i2l hx hb dX5_isElement_1 rfl ?_
  refine lv_lconst (v := 0) hx hb dX5_isElement_2 (by decide) ?_
  refine lv_ldc2 (v := 7) hx hb hown (hts _ tw_3_221) dX5_isElement_3 ?_
  refine w_ci (r_S (As := [.long ((v).toInt64), .long (0), .long (7)]) (rest := []) hF hB (c_X5_in l env s0 X u ((v).toInt64) (0) (7) ) cs_X5_in tw_3_183 ⟨rfl, rfl, by decide, by decide⟩ rfl hl.1 rfl (lv_room (by decide)) dX5_isElement_6 ⟨Nat.le_of_ble_eq_true rfl, Nat.le_of_ble_eq_true rfl⟩) hB (fun r_1 u_3 H locs hq_2 hB => ?_)
  obtain ⟨rfl, rfl⟩ := hq_2
  exact w_zret (v := b2i (inL ((v).toInt64) (0) (7))) hF hr (b2i_nar _) hlocks hB (⟨rfl, by rw [← in_el v]⟩) dX5_isElement_9
set_option maxHeartbeats 4000000 in
set_option maxRecDepth 100000 in
theorem c_X5_has (l : Launch) (env : Ev) (s0 : Nat) (X : va_W) (u : St) (a0 : Nat) (_xa0 : Nat) (ha0 : At u 20 (0) a0) (t : Nat) (o : Nat) (hM : MI u) (hV : MV u.2.2) (hNm : Nb u.2.2) (ht : t < 150) (ho : o < 150) : Met l yX5_has [Cond.code yX5_has cX5_has 3 (some .boolean)] { frames := 0, cells := 0, slots := 0, locals := 0 } (va_Pc [.ref (a0), .int (nI (t)), .int (nI (o))] (Pr env s0 X u)) (va_Qi (fun r u' => u = u' ∧ r = b2i (mHas u.2.2 t o)) (Po env s0 X) (fun q => s0 ≤ q)) 0 0 (fun q => s0 ≤ q) := by
  refine Met.ofW (cc := cX5_has) (maxL := 3) (ret := (some .boolean)) (by decide) rfl ?_
  intro p e s m args below meth c s₁ B hml hv
  obtain ⟨rfl, hv⟩ := hv
  have hx := B.exec
  have hb := B.bytes
  have hr := B.returns
  have hts : ∀ ww ∈ TT, ww.before #[.ref (a0), .int (nI (t)), .int (nI (o))] s = true := fun ww hw => hv.2.1 ww hw _
  have hown : s.vm.findClass RX5 = some m.cls := findClass_of_methodNamed B.named
  have hlocks := B.notSynchronized
  have hF : CallFix p m c cX5_has 3 s #[.ref (a0), .int (nI (t)), .int (nI (o))] TT RX5 := ⟨hx, hb, hml, hown, hts⟩
  have hB := Bd.entry hv
  have hl := lv_entry ([.ref (a0), .int (nI (t)), .int (nI (o))]) (n := 3) (Nat.le_of_ble_eq_true rfl)
  rw [lg_entry_eq]
  generalize (lg_sl ([.ref (a0), .int (nI (t)), .int (nI (o))]) ++ List.replicate (3 - (lg_sl ([.ref (a0), .int (nI (t)), .int (nI (o))])).length) Slot.unset).toArray = ls at hl ⊢
  have hl : lv_has ls 3 [(0, .ref (a0)), (1, .int (nI (t))), (2, .int (nI (o)))] := hl
  refine lv_aload_n hx hb dX5_has_0 rfl (lv_at hl 0 rfl) ?_
  refine w_get (v := .ref (sA u 30 0)) (fk := 9) hF hB ha0 (cn_20 env u (0)) rfl in_X5 (by decide) tw_3_104 rfl rfl dX5_has_1 ?_
  refine lv_iload_n hx hb dX5_has_4 rfl (lv_at hl 2 rfl) ?_
  refine w_iald (v := .int (nI (gN u.2.2 59 (0) (o)))) hF hB ⟨hM 30 (by decide), rfl⟩ (cn_30 env u (0)) (by omega) rfl (by decide) dX5_has_5 ?_
  refine w_ifle_n (tgt := 37) (by have := hNm 59 (0) (o); omega) hx hb dX5_has_6 (by decide) (fun c_1 => ?_) (fun c_1 => ?_)
  · refine lv_iconst (v := nI 0) hx hb dX5_has_37 (by decide) ?_
    exact w_zret (v := nI 0) hF hr rfl hlocks hB (⟨rfl, b2i_c0 (by simp [mHas, c_1] <;> omega)⟩) dX5_has_38
  · refine lv_aload_n hx hb dX5_has_9 rfl (lv_at hl 0 rfl) ?_
    refine w_get (v := .ref (sA u 30 0)) (fk := 9) hF hB ha0 (cn_20 env u (0)) rfl in_X5 (by decide) tw_3_104 rfl rfl dX5_has_10 ?_
    refine lv_iload_n hx hb dX5_has_13 rfl (lv_at hl 2 rfl) ?_
    refine w_iald (v := .int (nI (gN u.2.2 59 (0) (o)))) hF hB ⟨hM 30 (by decide), rfl⟩ (cn_30 env u (0)) (by omega) rfl (by decide) dX5_has_14 ?_
    refine lv_aload_n hx hb dX5_has_15 rfl (lv_at hl 0 rfl) ?_
    refine w_get (v := .ref (sA u 29 0)) (fk := 8) hF hB ha0 (cn_20 env u (0)) rfl in_X5 (by decide) tw_3_103 rfl rfl dX5_has_16 ?_
    refine lv_iconst (v := nI 4) hx hb dX5_has_19 (by decide) ?_
    refine lv_iload_n hx hb dX5_has_20 rfl (lv_at hl 1 rfl) ?_
    refine w_imul_n hx hb dX5_has_21 ?_
    refine lv_aload_n hx hb dX5_has_22 rfl (lv_at hl 0 rfl) ?_
    refine w_get (v := .ref (sA u 27 0)) (fk := 6) hF hB ha0 (cn_20 env u (0)) rfl in_X5 (by decide) tw_3_101 rfl rfl dX5_has_23 ?_
    refine lv_iload_n hx hb dX5_has_26 rfl (lv_at hl 2 rfl) ?_
    refine w_iald (v := .int (nI (gN u.2.2 56 (0) (o)))) hF hB ⟨hM 27 (by decide), rfl⟩ (cn_27 env u (0)) (by omega) rfl (by decide) dX5_has_27 ?_
    refine w_iadd_n hx hb dX5_has_28 ?_
    refine w_iald (v := .int (nI (gN u.2.2 58 (0) ((4 * t) + (gN u.2.2 56 (0) (o)))))) hF hB ⟨hM 29 (by decide), rfl⟩ (cn_29 env u (0)) (by have := hV.site (o); omega) rfl (by decide) dX5_has_29 ?_
    refine w_icgt_n (tgt := 37) (by have := hNm 59 (0) (o); omega) (by have := hNm 58 (0) ((4 * t) + (gN u.2.2 56 (0) (o))); have := hNm 56 (0) (o); omega) hx hb dX5_has_30 (by decide) (fun c_2 => ?_) (fun c_2 => ?_)
    · refine lv_iconst (v := nI 0) hx hb dX5_has_37 (by decide) ?_
      exact w_zret (v := nI 0) hF hr rfl hlocks hB (⟨rfl, b2i_c0 (by simp [mHas, c_1, c_2] <;> omega)⟩) dX5_has_38
    · refine lv_iconst (v := nI 1) hx hb dX5_has_33 (by decide) ?_
      refine lv_goto (tgt := 38) hx hb dX5_has_34 (by decide) ?_
      exact w_zret (v := nI 1) hF hr rfl hlocks hB (⟨rfl, b2i_c1 (by simp [mHas, c_1, c_2] <;> omega)⟩) dX5_has_38
set_option maxHeartbeats 4000000 in
set_option maxRecDepth 100000 in
theorem c_X5_plain (l : Launch) (env : Ev) (s0 : Nat) (X : va_W) (u : St) (a0 : Nat) (_xa0 : Nat) (ha0 : At u 20 (0) a0) (t : Nat) (hM : MI u) (hV : MV u.2.2) (hNm : Nb u.2.2) (ht : t < 150) : Met l yX5_plain [Cond.code yX5_plain cX5_plain 4 (some .int)] { frames := 0, cells := 0, slots := 0, locals := 0 } (va_Pc [.ref (a0), .int (nI (t))] (Pr env s0 X u)) (va_Qi (fun r u' => u = u' ∧ r = nI (mPlain u.2.2 t)) (Po env s0 X) (fun q => s0 ≤ q)) 0 0 (fun q => s0 ≤ q) := by
  refine Met.ofW (cc := cX5_plain) (maxL := 4) (ret := (some .int)) (by decide) rfl ?_
  intro p e s m args below meth c s₁ B hml hv
  obtain ⟨rfl, hv⟩ := hv
  have hx := B.exec
  have hb := B.bytes
  have hr := B.returns
  have hts : ∀ ww ∈ TT, ww.before #[.ref (a0), .int (nI (t))] s = true := fun ww hw => hv.2.1 ww hw _
  have hown : s.vm.findClass RX5 = some m.cls := findClass_of_methodNamed B.named
  have hlocks := B.notSynchronized
  have hF : CallFix p m c cX5_plain 4 s #[.ref (a0), .int (nI (t))] TT RX5 := ⟨hx, hb, hml, hown, hts⟩
  have hB := Bd.entry hv
  have hl := lv_entry ([.ref (a0), .int (nI (t))]) (n := 4) (Nat.le_of_ble_eq_true rfl)
  rw [lg_entry_eq]
  generalize (lg_sl ([.ref (a0), .int (nI (t))]) ++ List.replicate (4 - (lg_sl ([.ref (a0), .int (nI (t))])).length) Slot.unset).toArray = ls at hl ⊢
  have hl : lv_has ls 4 [(0, .ref (a0)), (1, .int (nI (t)))] := hl
  refine lv_iconst (v := nI 0) hx hb dX5_plain_0 (by decide) ?_
  refine lv_istore_n (lv' := [(2, .int (nI (0))), (0, .ref (a0)), (1, .int (nI (t)))]) hx hb dX5_plain_1 rfl hl (by decide) rfl (fun ls hl => ?_)
  refine lv_iconst (v := nI 0) hx hb dX5_plain_2 (by decide) ?_
  refine lv_istore_n (lv' := [(3, .int (nI (0))), (2, .int (nI (0))), (0, .ref (a0)), (1, .int (nI (t)))]) hx hb dX5_plain_3 rfl hl (by decide) rfl (fun ls hl => ?_)
  refine wloopH (σ := Heap × List Loc × Array Slot) (G := fun x => W p l e _ s m _ below meth c x.1 x.2.1 _ _ _ (F0 m 4 x.2.2 [])) (P := fun i_1 x => (True) ∧ Bd env s0 X u s x.1 x.2.1 ∧ lv_has x.2.2 4 [(0, .ref (a0)), (1, .int (nI (t))), (2, .int (nI (cntN (fun i => gB u.2.2 64 0 (12 * t + i)) (i_1)))), (3, .int (nI (i_1)))]) (N := gN u.2.2 52 0 0) ?_ 0 (_, _, ls) (Nat.zero_le _) ⟨trivial, hB, lv_sub hl [2, 3, 1, 0] rfl⟩
  rintro i_1 ⟨H, locs, ls⟩ hi_2 ⟨hv_3, hB, hl⟩ ih4
  replace hB : Bd env s0 X u s H locs := hB
  replace hl : lv_has ls 4 [(0, .ref (a0)), (1, .int (nI (t))), (2, .int (nI (cntN (fun i => gB u.2.2 64 0 (12 * t + i)) (i_1)))), (3, .int (nI (i_1)))] := hl
  show W p l e _ s m _ below meth c H locs _ _ _ (F0 m 4 ls [])
  have := hNm 52 0 0
  have := hV.nth
  refine lv_iload_n hx hb dX5_plain_4 rfl (lv_at hl 3 rfl) ?_
  refine lv_aload_n hx hb dX5_plain_5 rfl (lv_at hl 0 rfl) ?_
  refine w_get (v := .int (nI (gN u.2.2 52 (0) (0)))) (fk := 2) hF hB ha0 (cn_20 env u (0)) rfl in_X5 (by decide) tw_3_97 rfl rfl dX5_plain_6 ?_
  refine w_icge_n (tgt := 40) (by omega) (by have := hNm 52 (0) (0); omega) hx hb dX5_plain_9 (by decide) (fun c_4 => ?_) (fun c_4 => ?_)
  · refine lv_iload_n hx hb dX5_plain_40 rfl (lv_at hl 2 rfl) ?_
    exact w_iret (v := nI (cntN (fun i => gB u.2.2 64 0 (12 * t + i)) (i_1))) hF hr hlocks hB (⟨rfl, by rw [show i_1 = gN u.2.2 52 0 0 by omega]; rfl⟩) dX5_plain_41
  · refine lv_iload_n hx hb dX5_plain_12 rfl (lv_at hl 2 rfl) ?_
    refine lv_aload_n hx hb dX5_plain_13 rfl (lv_at hl 0 rfl) ?_
    refine w_get (v := .ref (sA u 35 0)) (fk := 14) hF hB ha0 (cn_20 env u (0)) rfl in_X5 (by decide) tw_3_109 rfl rfl dX5_plain_14 ?_
    refine lv_bipush (v := nI 12) hx hb dX5_plain_17 (by decide) ?_
    refine lv_iload_n hx hb dX5_plain_19 rfl (lv_at hl 1 rfl) ?_
    refine w_imul_n hx hb dX5_plain_20 ?_
    refine lv_iload_n hx hb dX5_plain_21 rfl (lv_at hl 3 rfl) ?_
    refine w_iadd_n hx hb dX5_plain_22 ?_
    refine w_zald (v := .int (b2i (gB u.2.2 64 (0) ((12 * t) + i_1)))) hF hB ⟨hM 35 (by decide), rfl⟩ (cn_35 env u (0)) (by omega) rfl (by decide) dX5_plain_23 ?_
    refine w_ifeq_b (tgt := 31) hx hb dX5_plain_24 (by decide) (fun c_5 => ?_) (fun c_5 => ?_)
    · refine lv_iconst (v := nI 0) hx hb dX5_plain_31 (by decide) ?_
      refine w_iadd_n hx hb dX5_plain_32 ?_
      refine lv_istore_n (lv' := [(2, .int (nI ((cntN (fun i => gB u.2.2 64 0 (12 * t + i)) (i_1)) + 0))), (0, .ref (a0)), (1, .int (nI (t))), (3, .int (nI (i_1)))]) hx hb dX5_plain_33 rfl hl (by decide) rfl (fun ls hl => ?_)
      refine lv_iinc (v := nI (i_1 + 1)) (lv' := [(3, .int (nI (i_1 + 1))), (2, .int (nI ((cntN (fun i => gB u.2.2 64 0 (12 * t + i)) (i_1)) + 0))), (0, .ref (a0)), (1, .int (nI (t)))]) hx hb dX5_plain_34 hl (k := 3) rfl (nI_add _ _) (by decide) rfl (fun ls hl => ?_)
      refine lv_goto (tgt := 4) hx hb dX5_plain_37 (by decide) ?_
      have ea_6 : cntN (fun i => gB u.2.2 64 0 (12 * t + i)) (i_1 + 1) = (cntN (fun i => gB u.2.2 64 0 (12 * t + i)) (i_1)) + 0 := by first | (simp [allN_s, anyN_s, cntN_s, sumL_s, Int64.add_assoc, c_4, c_5] <;> omega) | grind [allN_s, anyN_s, cntN_s, sumL_s, Int64.add_assoc]
      exact ih4 (H, locs, ls) (by omega) ⟨trivial, hB, by show lv_has ls 4 [(0, .ref (a0)), (1, .int (nI (t))), (2, .int (nI (cntN (fun i => gB u.2.2 64 0 (12 * t + i)) (i_1 + 1)))), (3, .int (nI (i_1 + 1)))]; rw [ea_6]; exact lv_sub hl [2, 3, 1, 0] rfl⟩
    · refine lv_iconst (v := nI 1) hx hb dX5_plain_27 (by decide) ?_
      refine lv_goto (tgt := 32) hx hb dX5_plain_28 (by decide) ?_
      refine w_iadd_n hx hb dX5_plain_32 ?_
      refine lv_istore_n (lv' := [(2, .int (nI ((cntN (fun i => gB u.2.2 64 0 (12 * t + i)) (i_1)) + 1))), (0, .ref (a0)), (1, .int (nI (t))), (3, .int (nI (i_1)))]) hx hb dX5_plain_33 rfl hl (by decide) rfl (fun ls hl => ?_)
      refine lv_iinc (v := nI (i_1 + 1)) (lv' := [(3, .int (nI (i_1 + 1))), (2, .int (nI ((cntN (fun i => gB u.2.2 64 0 (12 * t + i)) (i_1)) + 1))), (0, .ref (a0)), (1, .int (nI (t)))]) hx hb dX5_plain_34 hl (k := 3) rfl (nI_add _ _) (by decide) rfl (fun ls hl => ?_)
      refine lv_goto (tgt := 4) hx hb dX5_plain_37 (by decide) ?_
      have ea_7 : cntN (fun i => gB u.2.2 64 0 (12 * t + i)) (i_1 + 1) = (cntN (fun i => gB u.2.2 64 0 (12 * t + i)) (i_1)) + 1 := by first | (simp [allN_s, anyN_s, cntN_s, sumL_s, Int64.add_assoc, c_4, c_5] <;> omega) | grind [allN_s, anyN_s, cntN_s, sumL_s, Int64.add_assoc]
      exact ih4 (H, locs, ls) (by omega) ⟨trivial, hB, by show lv_has ls 4 [(0, .ref (a0)), (1, .int (nI (t))), (2, .int (nI (cntN (fun i => gB u.2.2 64 0 (12 * t + i)) (i_1 + 1)))), (3, .int (nI (i_1 + 1)))]; rw [ea_7]; exact lv_sub hl [2, 3, 1, 0] rfl⟩
set_option maxHeartbeats 4000000 in
set_option maxRecDepth 100000 in
theorem c_X5_isFree (l : Launch) (env : Ev) (s0 : Nat) (X : va_W) (u : St) (a0 : Nat) (_xa0 : Nat) (ha0 : At u 20 (0) a0) (t : Nat) (k : Nat) (w : Nat) (hM : MI u) (hV : MV u.2.2) (hNm : Nb u.2.2) (ht : t < 150) (hk : k < 12) (hw : w < 4) : Met l yX5_isFree [Cond.code yX5_isFree cX5_isFree 7 (some .boolean)] { frames := 1, cells := 0, slots := 0, locals := 22 } (va_Pc [.ref (a0), .int (nI (t)), .int (nI (k)), .int (nI (w))] (Pr env s0 X u)) (va_Qi (fun r u' => u = u' ∧ r = b2i (mIsFree u.2.2 t k w)) (Po env s0 X) (fun q => s0 ≤ q)) 0 0 (fun q => s0 ≤ q) := by
  refine Met.ofW (cc := cX5_isFree) (maxL := 7) (ret := (some .boolean)) (by decide) rfl ?_
  intro p e s m args below meth c s₁ B hml hv
  obtain ⟨rfl, hv⟩ := hv
  have hx := B.exec
  have hb := B.bytes
  have hr := B.returns
  have hts : ∀ ww ∈ TT, ww.before #[.ref (a0), .int (nI (t)), .int (nI (k)), .int (nI (w))] s = true := fun ww hw => hv.2.1 ww hw _
  have hown : s.vm.findClass RX5 = some m.cls := findClass_of_methodNamed B.named
  have hlocks := B.notSynchronized
  have hF : CallFix p m c cX5_isFree 7 s #[.ref (a0), .int (nI (t)), .int (nI (k)), .int (nI (w))] TT RX5 := ⟨hx, hb, hml, hown, hts⟩
  have hB := Bd.entry hv
  have hl := lv_entry ([.ref (a0), .int (nI (t)), .int (nI (k)), .int (nI (w))]) (n := 7) (Nat.le_of_ble_eq_true rfl)
  rw [lg_entry_eq]
  generalize (lg_sl ([.ref (a0), .int (nI (t)), .int (nI (k)), .int (nI (w))]) ++ List.replicate (7 - (lg_sl ([.ref (a0), .int (nI (t)), .int (nI (k)), .int (nI (w))])).length) Slot.unset).toArray = ls at hl ⊢
  have hl : lv_has ls 7 [(0, .ref (a0)), (1, .int (nI (t))), (2, .int (nI (k))), (3, .int (nI (w)))] := hl
  refine lv_aload_n hx hb dX5_isFree_0 rfl (lv_at hl 0 rfl) ?_
  refine w_get (v := .ref (sA u 42 0)) (fk := 21) hF hB ha0 (cn_20 env u (0)) rfl in_X5 (by decide) tw_3_116 rfl rfl dX5_isFree_1 ?_
  refine lv_bipush (v := nI 12) hx hb dX5_isFree_4 (by decide) ?_
  refine lv_iload_n hx hb dX5_isFree_6 rfl (lv_at hl 3 rfl) ?_
  refine w_imul_n hx hb dX5_isFree_7 ?_
  refine lv_iload_n hx hb dX5_isFree_8 rfl (lv_at hl 2 rfl) ?_
  refine w_iadd_n hx hb dX5_isFree_9 ?_
  refine w_iald (v := .int (gI u.2.2 71 (0) ((12 * w) + k))) hF hB ⟨hM 42 (by decide), rfl⟩ (cn_42 env u (0)) (by omega) rfl (by decide) dX5_isFree_10 ?_
  refine lv_bipush (v := -4) hx hb dX5_isFree_11 (by decide) ?_
  refine lv_icmp_ne (tgt := 20) hx hb dX5_isFree_13 (by decide) (fun c_1 => ?_) (fun c_1 => ?_)
  · refine lv_iconst (v := nI 0) hx hb dX5_isFree_20 (by decide) ?_
    refine lv_istore (lv' := [(4, .int (nI (0))), (0, .ref (a0)), (1, .int (nI (t))), (2, .int (nI (k))), (3, .int (nI (w)))]) hx hb dX5_isFree_21 hl (by decide) rfl (fun ls hl => ?_)
    refine lv_iconst (v := nI 0) hx hb dX5_isFree_23 (by decide) ?_
    refine lv_istore (lv' := [(5, .int (nI (0))), (4, .int (nI (0))), (0, .ref (a0)), (1, .int (nI (t))), (2, .int (nI (k))), (3, .int (nI (w)))]) hx hb dX5_isFree_24 hl (by decide) rfl (fun ls hl => ?_)
    have ea_3 : (decide (gI u.2.2 71 0 (12 * w + k) = -4) && allN (mFreeQ u.2.2 t k w) (0)) = false := by simp [allN_0, anyN_0, sumL_0, mFreeQ, mCame, c_1] <;> omega
    refine wloopH (σ := Heap × List Loc × Array Slot) (G := fun x => W p l e _ s m _ below meth c x.1 x.2.1 _ _ _ (F0 m 26 x.2.2 [])) (P := fun i_2 x => (True) ∧ Bd env s0 X u s x.1 x.2.1 ∧ lv_has x.2.2 7 [(0, .ref (a0)), (1, .int (nI (t))), (2, .int (nI (k))), (3, .int (nI (w))), (4, .int (b2i ((decide (gI u.2.2 71 0 (12 * w + k) = -4) && allN (mFreeQ u.2.2 t k w) (i_2))))), (5, .int (nI (i_2)))]) (N := gN u.2.2 70 0 w) ?_ 0 (_, _, ls) (Nat.zero_le _) ⟨trivial, hB, by show lv_has ls 7 [(0, .ref (a0)), (1, .int (nI (t))), (2, .int (nI (k))), (3, .int (nI (w))), (4, .int (b2i ((decide (gI u.2.2 71 0 (12 * w + k) = -4) && allN (mFreeQ u.2.2 t k w) (0))))), (5, .int (nI (0)))]; rw [ea_3]; exact lv_sub hl [2, 3, 4, 5, 1, 0] rfl⟩
    rintro i_2 ⟨H, locs, ls⟩ hi_4 ⟨hv_5, hB, hl⟩ ih26
    replace hB : Bd env s0 X u s H locs := hB
    replace hl : lv_has ls 7 [(0, .ref (a0)), (1, .int (nI (t))), (2, .int (nI (k))), (3, .int (nI (w))), (4, .int (b2i ((decide (gI u.2.2 71 0 (12 * w + k) = -4) && allN (mFreeQ u.2.2 t k w) (i_2))))), (5, .int (nI (i_2)))] := hl
    show W p l e _ s m _ below meth c H locs _ _ _ (F0 m 26 ls [])
    have := hNm 70 0 w
    have := hV.cm w
    refine lv_iload hx hb dX5_isFree_26 (lv_at hl 5 rfl) ?_
    refine lv_aload_n hx hb dX5_isFree_28 rfl (lv_at hl 0 rfl) ?_
    refine w_get (v := .ref (sA u 41 0)) (fk := 20) hF hB ha0 (cn_20 env u (0)) rfl in_X5 (by decide) tw_3_115 rfl rfl dX5_isFree_29 ?_
    refine lv_iload_n hx hb dX5_isFree_32 rfl (lv_at hl 3 rfl) ?_
    refine w_iald (v := .int (nI (gN u.2.2 70 (0) (w)))) hF hB ⟨hM 41 (by decide), rfl⟩ (cn_41 env u (0)) (by omega) rfl (by decide) dX5_isFree_33 ?_
    refine w_icge_n (tgt := 95) (by omega) (by have := hNm 70 (0) (w); omega) hx hb dX5_isFree_34 (by decide) (fun c_6 => ?_) (fun c_6 => ?_)
    · refine lv_iload hx hb dX5_isFree_95 (lv_at hl 4 rfl) ?_
      exact w_zret (v := b2i ((decide (gI u.2.2 71 0 (12 * w + k) = -4) && allN (mFreeQ u.2.2 t k w) (i_2)))) hF hr (b2i_nar _) hlocks hB (⟨rfl, by rw [show i_2 = gN u.2.2 70 0 w by omega]; rfl⟩) dX5_isFree_97
    · refine lv_aload_n hx hb dX5_isFree_37 rfl (lv_at hl 0 rfl) ?_
      refine w_get (v := .ref (sA u 40 0)) (fk := 19) hF hB ha0 (cn_20 env u (0)) rfl in_X5 (by decide) tw_3_114 rfl rfl dX5_isFree_38 ?_
      refine lv_sipush (v := nI 150) hx hb dX5_isFree_41 (by decide) ?_
      refine lv_iload_n hx hb dX5_isFree_44 rfl (lv_at hl 3 rfl) ?_
      refine w_imul_n hx hb dX5_isFree_45 ?_
      refine lv_iload hx hb dX5_isFree_46 (lv_at hl 5 rfl) ?_
      refine w_iadd_n hx hb dX5_isFree_48 ?_
      refine w_iald (v := .int (nI (gN u.2.2 69 (0) ((150 * w) + i_2)))) hF hB ⟨hM 40 (by decide), rfl⟩ (cn_40 env u (0)) (by omega) rfl (by decide) dX5_isFree_49 ?_
      refine lv_istore (lv' := [(6, .int (nI (gN u.2.2 69 (0) ((150 * w) + i_2)))), (0, .ref (a0)), (1, .int (nI (t))), (2, .int (nI (k))), (3, .int (nI (w))), (4, .int (b2i ((decide (gI u.2.2 71 0 (12 * w + k) = -4) && allN (mFreeQ u.2.2 t k w) (i_2))))), (5, .int (nI (i_2)))]) hx hb dX5_isFree_50 hl (by decide) rfl (fun ls hl => ?_)
      refine lv_iload hx hb dX5_isFree_52 (lv_at hl 5 rfl) ?_
      refine w_ifeq_b (tgt := 86) hx hb dX5_isFree_54 (by decide) (fun c_7 => ?_) (fun c_7 => ?_)
      · refine lv_iconst (v := nI 0) hx hb dX5_isFree_86 (by decide) ?_
        refine lv_istore (lv' := [(4, .int (nI (0))), (6, .int (nI (gN u.2.2 69 (0) ((150 * w) + i_2)))), (0, .ref (a0)), (1, .int (nI (t))), (2, .int (nI (k))), (3, .int (nI (w))), (5, .int (nI (i_2)))]) hx hb dX5_isFree_87 hl (by decide) rfl (fun ls hl => ?_)
        refine lv_iinc (v := nI (i_2 + 1)) (lv' := [(5, .int (nI (i_2 + 1))), (4, .int (nI (0))), (6, .int (nI (gN u.2.2 69 (0) ((150 * w) + i_2)))), (0, .ref (a0)), (1, .int (nI (t))), (2, .int (nI (k))), (3, .int (nI (w)))]) hx hb dX5_isFree_89 hl (k := 6) rfl (nI_add _ _) (by decide) rfl (fun ls hl => ?_)
        refine lv_goto (tgt := 26) hx hb dX5_isFree_92 (by decide) ?_
        have ea_8 : (decide (gI u.2.2 71 0 (12 * w + k) = -4) && allN (mFreeQ u.2.2 t k w) (i_2 + 1)) = false := by first | (simp [allN_s, anyN_s, cntN_s, sumL_s, Int64.add_assoc, mFreeQ, mCame, c_6, c_7] <;> omega) | grind [allN_s, anyN_s, cntN_s, sumL_s, Int64.add_assoc, mFreeQ, mCame]
        exact ih26 (H, locs, ls) (by omega) ⟨trivial, hB, by show lv_has ls 7 [(0, .ref (a0)), (1, .int (nI (t))), (2, .int (nI (k))), (3, .int (nI (w))), (4, .int (b2i ((decide (gI u.2.2 71 0 (12 * w + k) = -4) && allN (mFreeQ u.2.2 t k w) (i_2 + 1))))), (5, .int (nI (i_2 + 1)))]; rw [ea_8]; exact lv_sub hl [3, 4, 5, 6, 1, 0] rfl⟩
      · refine lv_aload_n hx hb dX5_isFree_57 rfl (lv_at hl 1 rfl) ?_
        refine w_get (v := .ref (sA u 35 0)) (fk := 14) hF hB ha0 (cn_20 env u (0)) rfl in_X5 (by decide) tw_3_109 rfl rfl dX5_isFree_58 ?_
        refine lv_bipush (v := nI 12) hx hb dX5_isFree_61 (by decide) ?_
        refine lv_iload hx hb dX5_isFree_63 (lv_at hl 0 rfl) ?_
        refine w_imul_n hx hb dX5_isFree_65 ?_
        refine lv_iload_n hx hb dX5_isFree_66 rfl (lv_at hl 3 rfl) ?_
        refine w_iadd_n hx hb dX5_isFree_67 ?_
        refine w_zald (v := .int (b2i (gB u.2.2 64 (0) ((12 * (gN u.2.2 69 (0) ((150 * w) + i_2))) + k)))) hF hB ⟨hM 35 (by decide), rfl⟩ (cn_35 env u (0)) (by have := hV.came ((150 * w) + i_2); omega) rfl (by decide) dX5_isFree_68 ?_
        refine w_ifeq_b (tgt := 82) hx hb dX5_isFree_69 (by decide) (fun c_9 => ?_) (fun c_9 => ?_)
        · refine lv_iconst (v := nI 1) hx hb dX5_isFree_82 (by decide) ?_
          refine lv_goto (tgt := 87) hx hb dX5_isFree_83 (by decide) ?_
          refine lv_istore (lv' := [(4, .int (nI (1))), (6, .int (nI (gN u.2.2 69 (0) ((150 * w) + i_2)))), (0, .ref (a0)), (1, .int (nI (t))), (2, .int (nI (k))), (3, .int (nI (w))), (5, .int (nI (i_2)))]) hx hb dX5_isFree_87 hl (by decide) rfl (fun ls hl => ?_)
          refine lv_iinc (v := nI (i_2 + 1)) (lv' := [(5, .int (nI (i_2 + 1))), (4, .int (nI (1))), (6, .int (nI (gN u.2.2 69 (0) ((150 * w) + i_2)))), (0, .ref (a0)), (1, .int (nI (t))), (2, .int (nI (k))), (3, .int (nI (w)))]) hx hb dX5_isFree_89 hl (k := 6) rfl (nI_add _ _) (by decide) rfl (fun ls hl => ?_)
          refine lv_goto (tgt := 26) hx hb dX5_isFree_92 (by decide) ?_
          have ea_10 : (decide (gI u.2.2 71 0 (12 * w + k) = -4) && allN (mFreeQ u.2.2 t k w) (i_2 + 1)) = true := by first | (simp [allN_s, anyN_s, cntN_s, sumL_s, Int64.add_assoc, mFreeQ, mCame, c_6, c_7, c_9] <;> omega) | grind [allN_s, anyN_s, cntN_s, sumL_s, Int64.add_assoc, mFreeQ, mCame]
          exact ih26 (H, locs, ls) (by omega) ⟨trivial, hB, by show lv_has ls 7 [(0, .ref (a0)), (1, .int (nI (t))), (2, .int (nI (k))), (3, .int (nI (w))), (4, .int (b2i ((decide (gI u.2.2 71 0 (12 * w + k) = -4) && allN (mFreeQ u.2.2 t k w) (i_2 + 1))))), (5, .int (nI (i_2 + 1)))]; rw [ea_10]; exact lv_sub hl [3, 4, 5, 6, 1, 0] rfl⟩
        · refine lv_aload_n hx hb dX5_isFree_72 rfl (lv_at hl 1 rfl) ?_
          refine lv_iload_n hx hb dX5_isFree_73 rfl (lv_at hl 2 rfl) ?_
          refine lv_iload hx hb dX5_isFree_74 (lv_at hl 0 rfl) ?_
          refine w_ci (r_V (As := [.int (nI (t)), .int (nI (gN u.2.2 69 (0) ((150 * w) + i_2)))]) (rest := []) hF hB (c_X5_has l env s0 X u (a0) (0) (ha0) (t) (gN u.2.2 69 (0) ((150 * w) + i_2)) hM hV hNm ht (hV.came _)) cv_X5_has tw_3_210 ⟨rfl, rfl, by decide, by decide⟩ (hB.recv ha0 (cn_20 env u (0)) rfl) rfl hl.1 rfl (lv_room (by decide)) dX5_isFree_76 ⟨Nat.le_of_ble_eq_true rfl, Nat.le_of_ble_eq_true rfl⟩) hB (fun r_11 u_13 H locs hq_12 hB => ?_)
          obtain ⟨rfl, rfl⟩ := hq_12
          refine w_ifeq_b (tgt := 86) hx hb dX5_isFree_79 (by decide) (fun c_14 => ?_) (fun c_14 => ?_)
          · refine lv_iconst (v := nI 0) hx hb dX5_isFree_86 (by decide) ?_
            refine lv_istore (lv' := [(4, .int (nI (0))), (6, .int (nI (gN u.2.2 69 (0) ((150 * w) + i_2)))), (0, .ref (a0)), (1, .int (nI (t))), (2, .int (nI (k))), (3, .int (nI (w))), (5, .int (nI (i_2)))]) hx hb dX5_isFree_87 hl (by decide) rfl (fun ls hl => ?_)
            refine lv_iinc (v := nI (i_2 + 1)) (lv' := [(5, .int (nI (i_2 + 1))), (4, .int (nI (0))), (6, .int (nI (gN u.2.2 69 (0) ((150 * w) + i_2)))), (0, .ref (a0)), (1, .int (nI (t))), (2, .int (nI (k))), (3, .int (nI (w)))]) hx hb dX5_isFree_89 hl (k := 6) rfl (nI_add _ _) (by decide) rfl (fun ls hl => ?_)
            refine lv_goto (tgt := 26) hx hb dX5_isFree_92 (by decide) ?_
            have ea_15 : (decide (gI u.2.2 71 0 (12 * w + k) = -4) && allN (mFreeQ u.2.2 t k w) (i_2 + 1)) = false := by first | (simp [allN_s, anyN_s, cntN_s, sumL_s, Int64.add_assoc, mFreeQ, mCame, c_6, c_7, c_9, c_14] <;> omega) | grind [allN_s, anyN_s, cntN_s, sumL_s, Int64.add_assoc, mFreeQ, mCame]
            exact ih26 (H, locs, ls) (by omega) ⟨trivial, hB, by show lv_has ls 7 [(0, .ref (a0)), (1, .int (nI (t))), (2, .int (nI (k))), (3, .int (nI (w))), (4, .int (b2i ((decide (gI u.2.2 71 0 (12 * w + k) = -4) && allN (mFreeQ u.2.2 t k w) (i_2 + 1))))), (5, .int (nI (i_2 + 1)))]; rw [ea_15]; exact lv_sub hl [3, 4, 5, 6, 1, 0] rfl⟩
          · refine lv_iconst (v := nI 1) hx hb dX5_isFree_82 (by decide) ?_
            refine lv_goto (tgt := 87) hx hb dX5_isFree_83 (by decide) ?_
            refine lv_istore (lv' := [(4, .int (nI (1))), (6, .int (nI (gN u.2.2 69 (0) ((150 * w) + i_2)))), (0, .ref (a0)), (1, .int (nI (t))), (2, .int (nI (k))), (3, .int (nI (w))), (5, .int (nI (i_2)))]) hx hb dX5_isFree_87 hl (by decide) rfl (fun ls hl => ?_)
            refine lv_iinc (v := nI (i_2 + 1)) (lv' := [(5, .int (nI (i_2 + 1))), (4, .int (nI (1))), (6, .int (nI (gN u.2.2 69 (0) ((150 * w) + i_2)))), (0, .ref (a0)), (1, .int (nI (t))), (2, .int (nI (k))), (3, .int (nI (w)))]) hx hb dX5_isFree_89 hl (k := 6) rfl (nI_add _ _) (by decide) rfl (fun ls hl => ?_)
            refine lv_goto (tgt := 26) hx hb dX5_isFree_92 (by decide) ?_
            have ea_16 : (decide (gI u.2.2 71 0 (12 * w + k) = -4) && allN (mFreeQ u.2.2 t k w) (i_2 + 1)) = true := by first | (simp [allN_s, anyN_s, cntN_s, sumL_s, Int64.add_assoc, mFreeQ, mCame, c_6, c_7, c_9, c_14] <;> omega) | grind [allN_s, anyN_s, cntN_s, sumL_s, Int64.add_assoc, mFreeQ, mCame]
            exact ih26 (H, locs, ls) (by omega) ⟨trivial, hB, by show lv_has ls 7 [(0, .ref (a0)), (1, .int (nI (t))), (2, .int (nI (k))), (3, .int (nI (w))), (4, .int (b2i ((decide (gI u.2.2 71 0 (12 * w + k) = -4) && allN (mFreeQ u.2.2 t k w) (i_2 + 1))))), (5, .int (nI (i_2 + 1)))]; rw [ea_16]; exact lv_sub hl [3, 4, 5, 6, 1, 0] rfl⟩
  · refine lv_iconst (v := nI 1) hx hb dX5_isFree_16 (by decide) ?_
    refine lv_goto (tgt := 21) hx hb dX5_isFree_17 (by decide) ?_
    refine lv_istore (lv' := [(4, .int (nI (1))), (0, .ref (a0)), (1, .int (nI (t))), (2, .int (nI (k))), (3, .int (nI (w)))]) hx hb dX5_isFree_21 hl (by decide) rfl (fun ls hl => ?_)
    refine lv_iconst (v := nI 0) hx hb dX5_isFree_23 (by decide) ?_
    refine lv_istore (lv' := [(5, .int (nI (0))), (4, .int (nI (1))), (0, .ref (a0)), (1, .int (nI (t))), (2, .int (nI (k))), (3, .int (nI (w)))]) hx hb dX5_isFree_24 hl (by decide) rfl (fun ls hl => ?_)
    have ea_18 : (decide (gI u.2.2 71 0 (12 * w + k) = -4) && allN (mFreeQ u.2.2 t k w) (0)) = true := by simp [allN_0, anyN_0, sumL_0, mFreeQ, mCame, c_1] <;> omega
    refine wloopH (σ := Heap × List Loc × Array Slot) (G := fun x => W p l e _ s m _ below meth c x.1 x.2.1 _ _ _ (F0 m 26 x.2.2 [])) (P := fun i_17 x => (True) ∧ Bd env s0 X u s x.1 x.2.1 ∧ lv_has x.2.2 7 [(0, .ref (a0)), (1, .int (nI (t))), (2, .int (nI (k))), (3, .int (nI (w))), (4, .int (b2i ((decide (gI u.2.2 71 0 (12 * w + k) = -4) && allN (mFreeQ u.2.2 t k w) (i_17))))), (5, .int (nI (i_17)))]) (N := gN u.2.2 70 0 w) ?_ 0 (_, _, ls) (Nat.zero_le _) ⟨trivial, hB, by show lv_has ls 7 [(0, .ref (a0)), (1, .int (nI (t))), (2, .int (nI (k))), (3, .int (nI (w))), (4, .int (b2i ((decide (gI u.2.2 71 0 (12 * w + k) = -4) && allN (mFreeQ u.2.2 t k w) (0))))), (5, .int (nI (0)))]; rw [ea_18]; exact lv_sub hl [2, 3, 4, 5, 1, 0] rfl⟩
    rintro i_17 ⟨H, locs, ls⟩ hi_19 ⟨hv_20, hB, hl⟩ ih26
    replace hB : Bd env s0 X u s H locs := hB
    replace hl : lv_has ls 7 [(0, .ref (a0)), (1, .int (nI (t))), (2, .int (nI (k))), (3, .int (nI (w))), (4, .int (b2i ((decide (gI u.2.2 71 0 (12 * w + k) = -4) && allN (mFreeQ u.2.2 t k w) (i_17))))), (5, .int (nI (i_17)))] := hl
    show W p l e _ s m _ below meth c H locs _ _ _ (F0 m 26 ls [])
    have := hNm 70 0 w
    have := hV.cm w
    refine lv_iload hx hb dX5_isFree_26 (lv_at hl 5 rfl) ?_
    refine lv_aload_n hx hb dX5_isFree_28 rfl (lv_at hl 0 rfl) ?_
    refine w_get (v := .ref (sA u 41 0)) (fk := 20) hF hB ha0 (cn_20 env u (0)) rfl in_X5 (by decide) tw_3_115 rfl rfl dX5_isFree_29 ?_
    refine lv_iload_n hx hb dX5_isFree_32 rfl (lv_at hl 3 rfl) ?_
    refine w_iald (v := .int (nI (gN u.2.2 70 (0) (w)))) hF hB ⟨hM 41 (by decide), rfl⟩ (cn_41 env u (0)) (by omega) rfl (by decide) dX5_isFree_33 ?_
    refine w_icge_n (tgt := 95) (by omega) (by have := hNm 70 (0) (w); omega) hx hb dX5_isFree_34 (by decide) (fun c_21 => ?_) (fun c_21 => ?_)
    · refine lv_iload hx hb dX5_isFree_95 (lv_at hl 4 rfl) ?_
      exact w_zret (v := b2i ((decide (gI u.2.2 71 0 (12 * w + k) = -4) && allN (mFreeQ u.2.2 t k w) (i_17)))) hF hr (b2i_nar _) hlocks hB (⟨rfl, by rw [show i_17 = gN u.2.2 70 0 w by omega]; rfl⟩) dX5_isFree_97
    · refine lv_aload_n hx hb dX5_isFree_37 rfl (lv_at hl 0 rfl) ?_
      refine w_get (v := .ref (sA u 40 0)) (fk := 19) hF hB ha0 (cn_20 env u (0)) rfl in_X5 (by decide) tw_3_114 rfl rfl dX5_isFree_38 ?_
      refine lv_sipush (v := nI 150) hx hb dX5_isFree_41 (by decide) ?_
      refine lv_iload_n hx hb dX5_isFree_44 rfl (lv_at hl 3 rfl) ?_
      refine w_imul_n hx hb dX5_isFree_45 ?_
      refine lv_iload hx hb dX5_isFree_46 (lv_at hl 5 rfl) ?_
      refine w_iadd_n hx hb dX5_isFree_48 ?_
      refine w_iald (v := .int (nI (gN u.2.2 69 (0) ((150 * w) + i_17)))) hF hB ⟨hM 40 (by decide), rfl⟩ (cn_40 env u (0)) (by omega) rfl (by decide) dX5_isFree_49 ?_
      refine lv_istore (lv' := [(6, .int (nI (gN u.2.2 69 (0) ((150 * w) + i_17)))), (0, .ref (a0)), (1, .int (nI (t))), (2, .int (nI (k))), (3, .int (nI (w))), (4, .int (b2i ((decide (gI u.2.2 71 0 (12 * w + k) = -4) && allN (mFreeQ u.2.2 t k w) (i_17))))), (5, .int (nI (i_17)))]) hx hb dX5_isFree_50 hl (by decide) rfl (fun ls hl => ?_)
      refine lv_iload hx hb dX5_isFree_52 (lv_at hl 5 rfl) ?_
      refine w_ifeq_b (tgt := 86) hx hb dX5_isFree_54 (by decide) (fun c_22 => ?_) (fun c_22 => ?_)
      · refine lv_iconst (v := nI 0) hx hb dX5_isFree_86 (by decide) ?_
        refine lv_istore (lv' := [(4, .int (nI (0))), (6, .int (nI (gN u.2.2 69 (0) ((150 * w) + i_17)))), (0, .ref (a0)), (1, .int (nI (t))), (2, .int (nI (k))), (3, .int (nI (w))), (5, .int (nI (i_17)))]) hx hb dX5_isFree_87 hl (by decide) rfl (fun ls hl => ?_)
        refine lv_iinc (v := nI (i_17 + 1)) (lv' := [(5, .int (nI (i_17 + 1))), (4, .int (nI (0))), (6, .int (nI (gN u.2.2 69 (0) ((150 * w) + i_17)))), (0, .ref (a0)), (1, .int (nI (t))), (2, .int (nI (k))), (3, .int (nI (w)))]) hx hb dX5_isFree_89 hl (k := 6) rfl (nI_add _ _) (by decide) rfl (fun ls hl => ?_)
        refine lv_goto (tgt := 26) hx hb dX5_isFree_92 (by decide) ?_
        have ea_23 : (decide (gI u.2.2 71 0 (12 * w + k) = -4) && allN (mFreeQ u.2.2 t k w) (i_17 + 1)) = false := by first | (simp [allN_s, anyN_s, cntN_s, sumL_s, Int64.add_assoc, mFreeQ, mCame, c_21, c_22] <;> omega) | grind [allN_s, anyN_s, cntN_s, sumL_s, Int64.add_assoc, mFreeQ, mCame]
        exact ih26 (H, locs, ls) (by omega) ⟨trivial, hB, by show lv_has ls 7 [(0, .ref (a0)), (1, .int (nI (t))), (2, .int (nI (k))), (3, .int (nI (w))), (4, .int (b2i ((decide (gI u.2.2 71 0 (12 * w + k) = -4) && allN (mFreeQ u.2.2 t k w) (i_17 + 1))))), (5, .int (nI (i_17 + 1)))]; rw [ea_23]; exact lv_sub hl [3, 4, 5, 6, 1, 0] rfl⟩
      · refine lv_aload_n hx hb dX5_isFree_57 rfl (lv_at hl 1 rfl) ?_
        refine w_get (v := .ref (sA u 35 0)) (fk := 14) hF hB ha0 (cn_20 env u (0)) rfl in_X5 (by decide) tw_3_109 rfl rfl dX5_isFree_58 ?_
        refine lv_bipush (v := nI 12) hx hb dX5_isFree_61 (by decide) ?_
        refine lv_iload hx hb dX5_isFree_63 (lv_at hl 0 rfl) ?_
        refine w_imul_n hx hb dX5_isFree_65 ?_
        refine lv_iload_n hx hb dX5_isFree_66 rfl (lv_at hl 3 rfl) ?_
        refine w_iadd_n hx hb dX5_isFree_67 ?_
        refine w_zald (v := .int (b2i (gB u.2.2 64 (0) ((12 * (gN u.2.2 69 (0) ((150 * w) + i_17))) + k)))) hF hB ⟨hM 35 (by decide), rfl⟩ (cn_35 env u (0)) (by have := hV.came ((150 * w) + i_17); omega) rfl (by decide) dX5_isFree_68 ?_
        refine w_ifeq_b (tgt := 82) hx hb dX5_isFree_69 (by decide) (fun c_24 => ?_) (fun c_24 => ?_)
        · refine lv_iconst (v := nI 1) hx hb dX5_isFree_82 (by decide) ?_
          refine lv_goto (tgt := 87) hx hb dX5_isFree_83 (by decide) ?_
          refine lv_istore (lv' := [(4, .int (nI (1))), (6, .int (nI (gN u.2.2 69 (0) ((150 * w) + i_17)))), (0, .ref (a0)), (1, .int (nI (t))), (2, .int (nI (k))), (3, .int (nI (w))), (5, .int (nI (i_17)))]) hx hb dX5_isFree_87 hl (by decide) rfl (fun ls hl => ?_)
          refine lv_iinc (v := nI (i_17 + 1)) (lv' := [(5, .int (nI (i_17 + 1))), (4, .int (nI (1))), (6, .int (nI (gN u.2.2 69 (0) ((150 * w) + i_17)))), (0, .ref (a0)), (1, .int (nI (t))), (2, .int (nI (k))), (3, .int (nI (w)))]) hx hb dX5_isFree_89 hl (k := 6) rfl (nI_add _ _) (by decide) rfl (fun ls hl => ?_)
          refine lv_goto (tgt := 26) hx hb dX5_isFree_92 (by decide) ?_
          have ea_25 : (decide (gI u.2.2 71 0 (12 * w + k) = -4) && allN (mFreeQ u.2.2 t k w) (i_17 + 1)) = true := by first | (simp [allN_s, anyN_s, cntN_s, sumL_s, Int64.add_assoc, mFreeQ, mCame, c_21, c_22, c_24] <;> omega) | grind [allN_s, anyN_s, cntN_s, sumL_s, Int64.add_assoc, mFreeQ, mCame]
          exact ih26 (H, locs, ls) (by omega) ⟨trivial, hB, by show lv_has ls 7 [(0, .ref (a0)), (1, .int (nI (t))), (2, .int (nI (k))), (3, .int (nI (w))), (4, .int (b2i ((decide (gI u.2.2 71 0 (12 * w + k) = -4) && allN (mFreeQ u.2.2 t k w) (i_17 + 1))))), (5, .int (nI (i_17 + 1)))]; rw [ea_25]; exact lv_sub hl [3, 4, 5, 6, 1, 0] rfl⟩
        · refine lv_aload_n hx hb dX5_isFree_72 rfl (lv_at hl 1 rfl) ?_
          refine lv_iload_n hx hb dX5_isFree_73 rfl (lv_at hl 2 rfl) ?_
          refine lv_iload hx hb dX5_isFree_74 (lv_at hl 0 rfl) ?_
          refine w_ci (r_V (As := [.int (nI (t)), .int (nI (gN u.2.2 69 (0) ((150 * w) + i_17)))]) (rest := []) hF hB (c_X5_has l env s0 X u (a0) (0) (ha0) (t) (gN u.2.2 69 (0) ((150 * w) + i_17)) hM hV hNm ht (hV.came _)) cv_X5_has tw_3_210 ⟨rfl, rfl, by decide, by decide⟩ (hB.recv ha0 (cn_20 env u (0)) rfl) rfl hl.1 rfl (lv_room (by decide)) dX5_isFree_76 ⟨Nat.le_of_ble_eq_true rfl, Nat.le_of_ble_eq_true rfl⟩) hB (fun r_26 u_28 H locs hq_27 hB => ?_)
          obtain ⟨rfl, rfl⟩ := hq_27
          refine w_ifeq_b (tgt := 86) hx hb dX5_isFree_79 (by decide) (fun c_29 => ?_) (fun c_29 => ?_)
          · refine lv_iconst (v := nI 0) hx hb dX5_isFree_86 (by decide) ?_
            refine lv_istore (lv' := [(4, .int (nI (0))), (6, .int (nI (gN u.2.2 69 (0) ((150 * w) + i_17)))), (0, .ref (a0)), (1, .int (nI (t))), (2, .int (nI (k))), (3, .int (nI (w))), (5, .int (nI (i_17)))]) hx hb dX5_isFree_87 hl (by decide) rfl (fun ls hl => ?_)
            refine lv_iinc (v := nI (i_17 + 1)) (lv' := [(5, .int (nI (i_17 + 1))), (4, .int (nI (0))), (6, .int (nI (gN u.2.2 69 (0) ((150 * w) + i_17)))), (0, .ref (a0)), (1, .int (nI (t))), (2, .int (nI (k))), (3, .int (nI (w)))]) hx hb dX5_isFree_89 hl (k := 6) rfl (nI_add _ _) (by decide) rfl (fun ls hl => ?_)
            refine lv_goto (tgt := 26) hx hb dX5_isFree_92 (by decide) ?_
            have ea_30 : (decide (gI u.2.2 71 0 (12 * w + k) = -4) && allN (mFreeQ u.2.2 t k w) (i_17 + 1)) = false := by first | (simp [allN_s, anyN_s, cntN_s, sumL_s, Int64.add_assoc, mFreeQ, mCame, c_21, c_22, c_24, c_29] <;> omega) | grind [allN_s, anyN_s, cntN_s, sumL_s, Int64.add_assoc, mFreeQ, mCame]
            exact ih26 (H, locs, ls) (by omega) ⟨trivial, hB, by show lv_has ls 7 [(0, .ref (a0)), (1, .int (nI (t))), (2, .int (nI (k))), (3, .int (nI (w))), (4, .int (b2i ((decide (gI u.2.2 71 0 (12 * w + k) = -4) && allN (mFreeQ u.2.2 t k w) (i_17 + 1))))), (5, .int (nI (i_17 + 1)))]; rw [ea_30]; exact lv_sub hl [3, 4, 5, 6, 1, 0] rfl⟩
          · refine lv_iconst (v := nI 1) hx hb dX5_isFree_82 (by decide) ?_
            refine lv_goto (tgt := 87) hx hb dX5_isFree_83 (by decide) ?_
            refine lv_istore (lv' := [(4, .int (nI (1))), (6, .int (nI (gN u.2.2 69 (0) ((150 * w) + i_17)))), (0, .ref (a0)), (1, .int (nI (t))), (2, .int (nI (k))), (3, .int (nI (w))), (5, .int (nI (i_17)))]) hx hb dX5_isFree_87 hl (by decide) rfl (fun ls hl => ?_)
            refine lv_iinc (v := nI (i_17 + 1)) (lv' := [(5, .int (nI (i_17 + 1))), (4, .int (nI (1))), (6, .int (nI (gN u.2.2 69 (0) ((150 * w) + i_17)))), (0, .ref (a0)), (1, .int (nI (t))), (2, .int (nI (k))), (3, .int (nI (w)))]) hx hb dX5_isFree_89 hl (k := 6) rfl (nI_add _ _) (by decide) rfl (fun ls hl => ?_)
            refine lv_goto (tgt := 26) hx hb dX5_isFree_92 (by decide) ?_
            have ea_31 : (decide (gI u.2.2 71 0 (12 * w + k) = -4) && allN (mFreeQ u.2.2 t k w) (i_17 + 1)) = true := by first | (simp [allN_s, anyN_s, cntN_s, sumL_s, Int64.add_assoc, mFreeQ, mCame, c_21, c_22, c_24, c_29] <;> omega) | grind [allN_s, anyN_s, cntN_s, sumL_s, Int64.add_assoc, mFreeQ, mCame]
            exact ih26 (H, locs, ls) (by omega) ⟨trivial, hB, by show lv_has ls 7 [(0, .ref (a0)), (1, .int (nI (t))), (2, .int (nI (k))), (3, .int (nI (w))), (4, .int (b2i ((decide (gI u.2.2 71 0 (12 * w + k) = -4) && allN (mFreeQ u.2.2 t k w) (i_17 + 1))))), (5, .int (nI (i_17 + 1)))]; rw [ea_31]; exact lv_sub hl [3, 4, 5, 6, 1, 0] rfl⟩
set_option maxHeartbeats 4000000 in
set_option maxRecDepth 100000 in
theorem c_X5_areFree (l : Launch) (env : Ev) (s0 : Nat) (X : va_W) (u : St) (a0 : Nat) (_xa0 : Nat) (ha0 : At u 20 (0) a0) (t : Nat) (w : Nat) (hM : MI u) (hV : MV u.2.2) (hNm : Nb u.2.2) (ht : t < 150) (hw : w < 4) : Met l yX5_areFree [Cond.code yX5_areFree cX5_areFree 5 (some .boolean)] { frames := 2, cells := 0, slots := 0, locals := 48 } (va_Pc [.ref (a0), .int (nI (t)), .int (nI (w))] (Pr env s0 X u)) (va_Qi (fun r u' => u = u' ∧ r = b2i (mAreFree u.2.2 t w)) (Po env s0 X) (fun q => s0 ≤ q)) 0 0 (fun q => s0 ≤ q) := by
  refine Met.ofW (cc := cX5_areFree) (maxL := 5) (ret := (some .boolean)) (by decide) rfl ?_
  intro p e s m args below meth c s₁ B hml hv
  obtain ⟨rfl, hv⟩ := hv
  have hx := B.exec
  have hb := B.bytes
  have hr := B.returns
  have hts : ∀ ww ∈ TT, ww.before #[.ref (a0), .int (nI (t)), .int (nI (w))] s = true := fun ww hw => hv.2.1 ww hw _
  have hown : s.vm.findClass RX5 = some m.cls := findClass_of_methodNamed B.named
  have hlocks := B.notSynchronized
  have hF : CallFix p m c cX5_areFree 5 s #[.ref (a0), .int (nI (t)), .int (nI (w))] TT RX5 := ⟨hx, hb, hml, hown, hts⟩
  have hB := Bd.entry hv
  have hl := lv_entry ([.ref (a0), .int (nI (t)), .int (nI (w))]) (n := 5) (Nat.le_of_ble_eq_true rfl)
  rw [lg_entry_eq]
  generalize (lg_sl ([.ref (a0), .int (nI (t)), .int (nI (w))]) ++ List.replicate (5 - (lg_sl ([.ref (a0), .int (nI (t)), .int (nI (w))])).length) Slot.unset).toArray = ls at hl ⊢
  have hl : lv_has ls 5 [(0, .ref (a0)), (1, .int (nI (t))), (2, .int (nI (w)))] := hl
  refine lv_iconst (v := nI 1) hx hb dX5_areFree_0 (by decide) ?_
  refine lv_istore_n (lv' := [(3, .int (nI (1))), (0, .ref (a0)), (1, .int (nI (t))), (2, .int (nI (w)))]) hx hb dX5_areFree_1 rfl hl (by decide) rfl (fun ls hl => ?_)
  refine lv_iconst (v := nI 0) hx hb dX5_areFree_2 (by decide) ?_
  refine lv_istore (lv' := [(4, .int (nI (0))), (3, .int (nI (1))), (0, .ref (a0)), (1, .int (nI (t))), (2, .int (nI (w)))]) hx hb dX5_areFree_3 hl (by decide) rfl (fun ls hl => ?_)
  have ea_2 : allN (mAFQ u.2.2 t w) (0) = true := by simp [allN_0, anyN_0, sumL_0, mAFQ] <;> omega
  refine wloopH (σ := Heap × List Loc × Array Slot) (G := fun x => W p l e _ s m _ below meth c x.1 x.2.1 _ _ _ (F0 m 5 x.2.2 [])) (P := fun i_1 x => (True) ∧ Bd env s0 X u s x.1 x.2.1 ∧ lv_has x.2.2 5 [(0, .ref (a0)), (1, .int (nI (t))), (2, .int (nI (w))), (3, .int (b2i (allN (mAFQ u.2.2 t w) (i_1)))), (4, .int (nI (i_1)))]) (N := gN u.2.2 52 0 0) ?_ 0 (_, _, ls) (Nat.zero_le _) ⟨trivial, hB, by show lv_has ls 5 [(0, .ref (a0)), (1, .int (nI (t))), (2, .int (nI (w))), (3, .int (b2i (allN (mAFQ u.2.2 t w) (0)))), (4, .int (nI (0)))]; rw [ea_2]; exact lv_sub hl [2, 3, 4, 1, 0] rfl⟩
  rintro i_1 ⟨H, locs, ls⟩ hi_3 ⟨hv_4, hB, hl⟩ ih5
  replace hB : Bd env s0 X u s H locs := hB
  replace hl : lv_has ls 5 [(0, .ref (a0)), (1, .int (nI (t))), (2, .int (nI (w))), (3, .int (b2i (allN (mAFQ u.2.2 t w) (i_1)))), (4, .int (nI (i_1)))] := hl
  show W p l e _ s m _ below meth c H locs _ _ _ (F0 m 5 ls [])
  have := hNm 52 0 0
  have := hV.nth
  refine lv_iload hx hb dX5_areFree_5 (lv_at hl 4 rfl) ?_
  refine lv_aload_n hx hb dX5_areFree_7 rfl (lv_at hl 0 rfl) ?_
  refine w_get (v := .int (nI (gN u.2.2 52 (0) (0)))) (fk := 2) hF hB ha0 (cn_20 env u (0)) rfl in_X5 (by decide) tw_3_97 rfl rfl dX5_areFree_8 ?_
  refine w_icge_n (tgt := 67) (by omega) (by have := hNm 52 (0) (0); omega) hx hb dX5_areFree_11 (by decide) (fun c_5 => ?_) (fun c_5 => ?_)
  · refine lv_iload_n hx hb dX5_areFree_67 rfl (lv_at hl 3 rfl) ?_
    exact w_zret (v := b2i (allN (mAFQ u.2.2 t w) (i_1))) hF hr (b2i_nar _) hlocks hB (⟨rfl, by rw [show i_1 = gN u.2.2 52 0 0 by omega]; rfl⟩) dX5_areFree_68
  · refine lv_iload_n hx hb dX5_areFree_14 rfl (lv_at hl 3 rfl) ?_
    refine w_ifeq_b (tgt := 59) hx hb dX5_areFree_15 (by decide) (fun c_6 => ?_) (fun c_6 => ?_)
    · refine lv_iconst (v := nI 0) hx hb dX5_areFree_59 (by decide) ?_
      refine lv_istore_n (lv' := [(3, .int (nI (0))), (0, .ref (a0)), (1, .int (nI (t))), (2, .int (nI (w))), (4, .int (nI (i_1)))]) hx hb dX5_areFree_60 rfl hl (by decide) rfl (fun ls hl => ?_)
      refine lv_iinc (v := nI (i_1 + 1)) (lv' := [(4, .int (nI (i_1 + 1))), (3, .int (nI (0))), (0, .ref (a0)), (1, .int (nI (t))), (2, .int (nI (w)))]) hx hb dX5_areFree_61 hl (k := 4) rfl (nI_add _ _) (by decide) rfl (fun ls hl => ?_)
      refine lv_goto (tgt := 5) hx hb dX5_areFree_64 (by decide) ?_
      have ea_7 : allN (mAFQ u.2.2 t w) (i_1 + 1) = false := by first | (simp [allN_s, anyN_s, cntN_s, sumL_s, Int64.add_assoc, mAFQ, c_5, c_6] <;> omega) | grind [allN_s, anyN_s, cntN_s, sumL_s, Int64.add_assoc, mAFQ]
      exact ih5 (H, locs, ls) (by omega) ⟨trivial, hB, by show lv_has ls 5 [(0, .ref (a0)), (1, .int (nI (t))), (2, .int (nI (w))), (3, .int (b2i (allN (mAFQ u.2.2 t w) (i_1 + 1)))), (4, .int (nI (i_1 + 1)))]; rw [ea_7]; exact lv_sub hl [2, 3, 4, 1, 0] rfl⟩
    · refine lv_aload_n hx hb dX5_areFree_18 rfl (lv_at hl 0 rfl) ?_
      refine w_get (v := .ref (sA u 35 0)) (fk := 14) hF hB ha0 (cn_20 env u (0)) rfl in_X5 (by decide) tw_3_109 rfl rfl dX5_areFree_19 ?_
      refine lv_bipush (v := nI 12) hx hb dX5_areFree_22 (by decide) ?_
      refine lv_iload_n hx hb dX5_areFree_24 rfl (lv_at hl 1 rfl) ?_
      refine w_imul_n hx hb dX5_areFree_25 ?_
      refine lv_iload hx hb dX5_areFree_26 (lv_at hl 4 rfl) ?_
      refine w_iadd_n hx hb dX5_areFree_28 ?_
      refine w_zald (v := .int (b2i (gB u.2.2 64 (0) ((12 * t) + i_1)))) hF hB ⟨hM 35 (by decide), rfl⟩ (cn_35 env u (0)) (by omega) rfl (by decide) dX5_areFree_29 ?_
      refine w_ifeq_b (tgt := 55) hx hb dX5_areFree_30 (by decide) (fun c_8 => ?_) (fun c_8 => ?_)
      · refine lv_iconst (v := nI 1) hx hb dX5_areFree_55 (by decide) ?_
        refine lv_goto (tgt := 60) hx hb dX5_areFree_56 (by decide) ?_
        refine lv_istore_n (lv' := [(3, .int (nI (1))), (0, .ref (a0)), (1, .int (nI (t))), (2, .int (nI (w))), (4, .int (nI (i_1)))]) hx hb dX5_areFree_60 rfl hl (by decide) rfl (fun ls hl => ?_)
        refine lv_iinc (v := nI (i_1 + 1)) (lv' := [(4, .int (nI (i_1 + 1))), (3, .int (nI (1))), (0, .ref (a0)), (1, .int (nI (t))), (2, .int (nI (w)))]) hx hb dX5_areFree_61 hl (k := 4) rfl (nI_add _ _) (by decide) rfl (fun ls hl => ?_)
        refine lv_goto (tgt := 5) hx hb dX5_areFree_64 (by decide) ?_
        have ea_9 : allN (mAFQ u.2.2 t w) (i_1 + 1) = true := by first | (simp [allN_s, anyN_s, cntN_s, sumL_s, Int64.add_assoc, mAFQ, c_5, c_6, c_8] <;> omega) | grind [allN_s, anyN_s, cntN_s, sumL_s, Int64.add_assoc, mAFQ]
        exact ih5 (H, locs, ls) (by omega) ⟨trivial, hB, by show lv_has ls 5 [(0, .ref (a0)), (1, .int (nI (t))), (2, .int (nI (w))), (3, .int (b2i (allN (mAFQ u.2.2 t w) (i_1 + 1)))), (4, .int (nI (i_1 + 1)))]; rw [ea_9]; exact lv_sub hl [2, 3, 4, 1, 0] rfl⟩
      · refine lv_aload_n hx hb dX5_areFree_33 rfl (lv_at hl 0 rfl) ?_
        refine w_get (v := .ref (sA u 24 0)) (fk := 3) hF hB ha0 (cn_20 env u (0)) rfl in_X5 (by decide) tw_3_98 rfl rfl dX5_areFree_34 ?_
        refine lv_iload hx hb dX5_areFree_37 (lv_at hl 4 rfl) ?_
        refine w_iald (v := .int (nI (gN u.2.2 53 (0) (i_1)))) hF hB ⟨hM 24 (by decide), rfl⟩ (cn_24 env u (0)) (by omega) rfl (by decide) dX5_areFree_39 ?_
        refine lv_iload_n hx hb dX5_areFree_40 rfl (lv_at hl 2 rfl) ?_
        refine w_icne_n (tgt := 55) (by have := hNm 53 (0) (i_1); omega) (by omega) hx hb dX5_areFree_41 (by decide) (fun c_10 => ?_) (fun c_10 => ?_)
        · refine lv_iconst (v := nI 1) hx hb dX5_areFree_55 (by decide) ?_
          refine lv_goto (tgt := 60) hx hb dX5_areFree_56 (by decide) ?_
          refine lv_istore_n (lv' := [(3, .int (nI (1))), (0, .ref (a0)), (1, .int (nI (t))), (2, .int (nI (w))), (4, .int (nI (i_1)))]) hx hb dX5_areFree_60 rfl hl (by decide) rfl (fun ls hl => ?_)
          refine lv_iinc (v := nI (i_1 + 1)) (lv' := [(4, .int (nI (i_1 + 1))), (3, .int (nI (1))), (0, .ref (a0)), (1, .int (nI (t))), (2, .int (nI (w)))]) hx hb dX5_areFree_61 hl (k := 4) rfl (nI_add _ _) (by decide) rfl (fun ls hl => ?_)
          refine lv_goto (tgt := 5) hx hb dX5_areFree_64 (by decide) ?_
          have ea_11 : allN (mAFQ u.2.2 t w) (i_1 + 1) = true := by first | (simp [allN_s, anyN_s, cntN_s, sumL_s, Int64.add_assoc, mAFQ, c_5, c_6, c_8, c_10] <;> omega) | grind [allN_s, anyN_s, cntN_s, sumL_s, Int64.add_assoc, mAFQ]
          exact ih5 (H, locs, ls) (by omega) ⟨trivial, hB, by show lv_has ls 5 [(0, .ref (a0)), (1, .int (nI (t))), (2, .int (nI (w))), (3, .int (b2i (allN (mAFQ u.2.2 t w) (i_1 + 1)))), (4, .int (nI (i_1 + 1)))]; rw [ea_11]; exact lv_sub hl [2, 3, 4, 1, 0] rfl⟩
        · refine lv_aload_n hx hb dX5_areFree_44 rfl (lv_at hl 0 rfl) ?_
          refine lv_iload_n hx hb dX5_areFree_45 rfl (lv_at hl 1 rfl) ?_
          refine lv_iload hx hb dX5_areFree_46 (lv_at hl 4 rfl) ?_
          refine lv_iload_n hx hb dX5_areFree_48 rfl (lv_at hl 2 rfl) ?_
          refine w_ci (r_V (As := [.int (nI (t)), .int (nI (i_1)), .int (nI (w))]) (rest := []) hF hB (c_X5_isFree l env s0 X u (a0) (0) (ha0) (t) (i_1) (w) hM hV hNm ht (by omega) hw) cv_X5_isFree tw_4_10 ⟨rfl, rfl, by decide, by decide⟩ (hB.recv ha0 (cn_20 env u (0)) rfl) rfl hl.1 rfl (lv_room (by decide)) dX5_areFree_49 ⟨Nat.le_of_ble_eq_true rfl, Nat.le_of_ble_eq_true rfl⟩) hB (fun r_12 u_14 H locs hq_13 hB => ?_)
          obtain ⟨rfl, rfl⟩ := hq_13
          refine w_ifeq_b (tgt := 59) hx hb dX5_areFree_52 (by decide) (fun c_15 => ?_) (fun c_15 => ?_)
          · refine lv_iconst (v := nI 0) hx hb dX5_areFree_59 (by decide) ?_
            refine lv_istore_n (lv' := [(3, .int (nI (0))), (0, .ref (a0)), (1, .int (nI (t))), (2, .int (nI (w))), (4, .int (nI (i_1)))]) hx hb dX5_areFree_60 rfl hl (by decide) rfl (fun ls hl => ?_)
            refine lv_iinc (v := nI (i_1 + 1)) (lv' := [(4, .int (nI (i_1 + 1))), (3, .int (nI (0))), (0, .ref (a0)), (1, .int (nI (t))), (2, .int (nI (w)))]) hx hb dX5_areFree_61 hl (k := 4) rfl (nI_add _ _) (by decide) rfl (fun ls hl => ?_)
            refine lv_goto (tgt := 5) hx hb dX5_areFree_64 (by decide) ?_
            have ea_16 : allN (mAFQ u.2.2 t w) (i_1 + 1) = false := by first | (simp [allN_s, anyN_s, cntN_s, sumL_s, Int64.add_assoc, mAFQ, c_5, c_6, c_8, c_10, c_15] <;> omega) | grind [allN_s, anyN_s, cntN_s, sumL_s, Int64.add_assoc, mAFQ]
            exact ih5 (H, locs, ls) (by omega) ⟨trivial, hB, by show lv_has ls 5 [(0, .ref (a0)), (1, .int (nI (t))), (2, .int (nI (w))), (3, .int (b2i (allN (mAFQ u.2.2 t w) (i_1 + 1)))), (4, .int (nI (i_1 + 1)))]; rw [ea_16]; exact lv_sub hl [2, 3, 4, 1, 0] rfl⟩
          · refine lv_iconst (v := nI 1) hx hb dX5_areFree_55 (by decide) ?_
            refine lv_goto (tgt := 60) hx hb dX5_areFree_56 (by decide) ?_
            refine lv_istore_n (lv' := [(3, .int (nI (1))), (0, .ref (a0)), (1, .int (nI (t))), (2, .int (nI (w))), (4, .int (nI (i_1)))]) hx hb dX5_areFree_60 rfl hl (by decide) rfl (fun ls hl => ?_)
            refine lv_iinc (v := nI (i_1 + 1)) (lv' := [(4, .int (nI (i_1 + 1))), (3, .int (nI (1))), (0, .ref (a0)), (1, .int (nI (t))), (2, .int (nI (w)))]) hx hb dX5_areFree_61 hl (k := 4) rfl (nI_add _ _) (by decide) rfl (fun ls hl => ?_)
            refine lv_goto (tgt := 5) hx hb dX5_areFree_64 (by decide) ?_
            have ea_17 : allN (mAFQ u.2.2 t w) (i_1 + 1) = true := by first | (simp [allN_s, anyN_s, cntN_s, sumL_s, Int64.add_assoc, mAFQ, c_5, c_6, c_8, c_10, c_15] <;> omega) | grind [allN_s, anyN_s, cntN_s, sumL_s, Int64.add_assoc, mAFQ]
            exact ih5 (H, locs, ls) (by omega) ⟨trivial, hB, by show lv_has ls 5 [(0, .ref (a0)), (1, .int (nI (t))), (2, .int (nI (w))), (3, .int (b2i (allN (mAFQ u.2.2 t w) (i_1 + 1)))), (4, .int (nI (i_1 + 1)))]; rw [ea_17]; exact lv_sub hl [2, 3, 4, 1, 0] rfl⟩
set_option maxHeartbeats 4000000 in
set_option maxRecDepth 100000 in
theorem c_X5_isSafe (l : Launch) (env : Ev) (s0 : Nat) (X : va_W) (u : St) (a0 : Nat) (_xa0 : Nat) (ha0 : At u 20 (0) a0) (t : Nat) (hM : MI u) (hV : MV u.2.2) (hNm : Nb u.2.2) (ht : t < 150) : Met l yX5_isSafe [Cond.code yX5_isSafe cX5_isSafe 2 (some .boolean)] { frames := 0, cells := 0, slots := 0, locals := 0 } (va_Pc [.ref (a0), .int (nI (t))] (Pr env s0 X u)) (va_Qi (fun r u' => u = u' ∧ r = b2i (mIsSafe u.2.2 t)) (Po env s0 X) (fun q => s0 ≤ q)) 0 0 (fun q => s0 ≤ q) := by
  refine Met.ofW (cc := cX5_isSafe) (maxL := 2) (ret := (some .boolean)) (by decide) rfl ?_
  intro p e s m args below meth c s₁ B hml hv
  obtain ⟨rfl, hv⟩ := hv
  have hx := B.exec
  have hb := B.bytes
  have hr := B.returns
  have hts : ∀ ww ∈ TT, ww.before #[.ref (a0), .int (nI (t))] s = true := fun ww hw => hv.2.1 ww hw _
  have hown : s.vm.findClass RX5 = some m.cls := findClass_of_methodNamed B.named
  have hlocks := B.notSynchronized
  have hF : CallFix p m c cX5_isSafe 2 s #[.ref (a0), .int (nI (t))] TT RX5 := ⟨hx, hb, hml, hown, hts⟩
  have hB := Bd.entry hv
  have hl := lv_entry ([.ref (a0), .int (nI (t))]) (n := 2) (Nat.le_of_ble_eq_true rfl)
  rw [lg_entry_eq]
  generalize (lg_sl ([.ref (a0), .int (nI (t))]) ++ List.replicate (2 - (lg_sl ([.ref (a0), .int (nI (t))])).length) Slot.unset).toArray = ls at hl ⊢
  have hl : lv_has ls 2 [(0, .ref (a0)), (1, .int (nI (t)))] := hl
  refine lv_aload_n hx hb dX5_isSafe_0 rfl (lv_at hl 0 rfl) ?_
  refine w_get (v := .ref (sA u 30 0)) (fk := 9) hF hB ha0 (cn_20 env u (0)) rfl in_X5 (by decide) tw_3_104 rfl rfl dX5_isSafe_1 ?_
  refine lv_iload_n hx hb dX5_isSafe_4 rfl (lv_at hl 1 rfl) ?_
  refine w_iald (v := .int (nI (gN u.2.2 59 (0) (t)))) hF hB ⟨hM 30 (by decide), rfl⟩ (cn_30 env u (0)) (by omega) rfl (by decide) dX5_isSafe_5 ?_
  refine w_ifle_n (tgt := 26) (by have := hNm 59 (0) (t); omega) hx hb dX5_isSafe_6 (by decide) (fun c_1 => ?_) (fun c_1 => ?_)
  · refine lv_iconst (v := nI 0) hx hb dX5_isSafe_26 (by decide) ?_
    exact w_zret (v := nI 0) hF hr rfl hlocks hB (⟨rfl, b2i_c0 (by simp [mIsSafe, c_1] <;> omega)⟩) dX5_isSafe_27
  · refine lv_aload_n hx hb dX5_isSafe_9 rfl (lv_at hl 0 rfl) ?_
    refine w_get (v := .ref (sA u 31 0)) (fk := 10) hF hB ha0 (cn_20 env u (0)) rfl in_X5 (by decide) tw_3_105 rfl rfl dX5_isSafe_10 ?_
    refine lv_iload_n hx hb dX5_isSafe_13 rfl (lv_at hl 1 rfl) ?_
    refine w_iald (v := .int (nI (gN u.2.2 60 (0) (t)))) hF hB ⟨hM 31 (by decide), rfl⟩ (cn_31 env u (0)) (by omega) rfl (by decide) dX5_isSafe_14 ?_
    refine lv_aload_n hx hb dX5_isSafe_15 rfl (lv_at hl 0 rfl) ?_
    refine w_get (v := .int (nI (gN u.2.2 51 (0) (0)))) (fk := 1) hF hB ha0 (cn_20 env u (0)) rfl in_X5 (by decide) tw_3_96 rfl rfl dX5_isSafe_16 ?_
    refine w_iclt_n (tgt := 26) (by have := hNm 60 (0) (t); omega) (by have := hNm 51 (0) (0); omega) hx hb dX5_isSafe_19 (by decide) (fun c_2 => ?_) (fun c_2 => ?_)
    · refine lv_iconst (v := nI 0) hx hb dX5_isSafe_26 (by decide) ?_
      exact w_zret (v := nI 0) hF hr rfl hlocks hB (⟨rfl, b2i_c0 (by simp [mIsSafe, c_1, c_2] <;> omega)⟩) dX5_isSafe_27
    · refine lv_iconst (v := nI 1) hx hb dX5_isSafe_22 (by decide) ?_
      refine lv_goto (tgt := 27) hx hb dX5_isSafe_23 (by decide) ?_
      exact w_zret (v := nI 1) hF hr rfl hlocks hB (⟨rfl, b2i_c1 (by simp [mIsSafe, c_1, c_2] <;> omega)⟩) dX5_isSafe_27

set_option maxHeartbeats 4000000 in
set_option maxRecDepth 100000 in
theorem c_Jxa1e45_init_da8c8 (l : Launch) (env : Ev) (s0 : Nat) (X : va_W) (u : St) (a0 : Nat)  : Met l yJxa1e45_init_da8c8 [Cond.code yJxa1e45_init_da8c8 cJxa1e45_init_da8c8 1 none] { frames := 1, cells := 0, slots := 0, locals := 12 } (va_Pc [.ref (a0)] (Pr env s0 ((a0, .inr (0, [.int 0, .null, .int 0])) :: X) u)) (va_Qv (fun u' => u = u') (Po env s0 ((a0, .inr (0, [.int 0, .null, .int 0])) :: X)) (fun q => s0 ≤ q)) 0 0 (fun q => s0 ≤ q) := by
  refine Met.ofW (cc := cJxa1e45_init_da8c8) (maxL := 1) (ret := none) (by decide) rfl ?_
  intro p e s m args below meth c s₁ B hml hv
  obtain ⟨rfl, hv⟩ := hv
  have hx := B.exec
  have hb := B.bytes
  have hr := B.returns
  have hts : ∀ ww ∈ TT, ww.before #[.ref (a0)] s = true := fun ww hw => hv.2.1 ww hw _
  have hown : s.vm.findClass RJxa1e45 = some m.cls := findClass_of_methodNamed B.named
  have hlocks := B.notSynchronized
  have hin : meth.name = "<init>" := (name_of_methodNamed B.named B.method).1
  have hF : CallFix p m c cJxa1e45_init_da8c8 1 s #[.ref (a0)] TT RJxa1e45 := ⟨hx, hb, hml, hown, hts⟩
  have hB := Bd.entry hv
  have hl := lv_entry ([.ref (a0)]) (n := 1) (Nat.le_of_ble_eq_true rfl)
  rw [lg_entry_eq]
  generalize (lg_sl ([.ref (a0)]) ++ List.replicate (1 - (lg_sl ([.ref (a0)])).length) Slot.unset).toArray = ls at hl ⊢
  have hl : lv_has ls 1 [(0, .ref (a0))] := hl
  refine lv_aload_n hx hb dJxa1e45_init_da8c8_0 rfl (lv_at hl 0 rfl) ?_
  refine W.objInit hx hb hown (hts _ tw_1_37) (hts _ tw_1_22) (hts _ tw_1_23) rfl (by rw [hml]; exact hl.1) rfl dJxa1e45_init_da8c8_1 (Nat.le_of_ble_eq_true rfl) (Nat.le_of_ble_eq_true rfl) ?_
  refine W.eq (g2 := F0 m 4 ls []) rfl ?_
  exact w_vret hF hr hlocks hB (rfl) dJxa1e45_init_da8c8_4
set_option maxHeartbeats 4000000 in
set_option maxRecDepth 100000 in
theorem c_Jxc12de_init_da8c8 (l : Launch) (env : Ev) (s0 : Nat) (X : va_W) (u : St) (a0 : Nat)  : Met l yJxc12de_init_da8c8 [Cond.code yJxc12de_init_da8c8 cJxc12de_init_da8c8 1 none] { frames := 2, cells := 0, slots := 0, locals := 32 } (va_Pc [.ref (a0)] (Pr env s0 ((a0, .inr (0, [.int 0, .null, .int 0])) :: X) u)) (va_Qv (fun u' => u = u') (Po env s0 ((a0, .inr (0, [.int 0, .null, .int 0])) :: X)) (fun q => s0 ≤ q)) 0 0 (fun q => s0 ≤ q) := by
  refine Met.ofW (cc := cJxc12de_init_da8c8) (maxL := 1) (ret := none) (by decide) rfl ?_
  intro p e s m args below meth c s₁ B hml hv
  obtain ⟨rfl, hv⟩ := hv
  have hx := B.exec
  have hb := B.bytes
  have hr := B.returns
  have hts : ∀ ww ∈ TT, ww.before #[.ref (a0)] s = true := fun ww hw => hv.2.1 ww hw _
  have hown : s.vm.findClass RJxc12de = some m.cls := findClass_of_methodNamed B.named
  have hlocks := B.notSynchronized
  have hin : meth.name = "<init>" := (name_of_methodNamed B.named B.method).1
  have hF : CallFix p m c cJxc12de_init_da8c8 1 s #[.ref (a0)] TT RJxc12de := ⟨hx, hb, hml, hown, hts⟩
  have hB := Bd.entry hv
  have hl := lv_entry ([.ref (a0)]) (n := 1) (Nat.le_of_ble_eq_true rfl)
  rw [lg_entry_eq]
  generalize (lg_sl ([.ref (a0)]) ++ List.replicate (1 - (lg_sl ([.ref (a0)])).length) Slot.unset).toArray = ls at hl ⊢
  have hl : lv_has ls 1 [(0, .ref (a0))] := hl
  refine lv_aload_n hx hb dJxc12de_init_da8c8_0 rfl (lv_at hl 0 rfl) ?_
  refine w_cv (r_I (As := []) (rest := []) hF hB (c_Jxa1e45_init_da8c8 l env s0 X u (a0) ) ci_Jxa1e45_init_da8c8 tw_1_34 ⟨rfl, rfl, by decide, by decide⟩ rfl hl.1 rfl (lv_room (by decide)) dJxc12de_init_da8c8_1 ⟨Nat.le_of_ble_eq_true rfl, Nat.le_of_ble_eq_true rfl⟩) hB (fun u_3 H locs hq_2 hB => ?_)
  obtain rfl := hq_2
  refine lv_aload_n hx hb dJxc12de_init_da8c8_4 rfl (lv_at hl 0 rfl) ?_
  refine lv_iconst (v := nI 0) hx hb dJxc12de_init_da8c8_5 (by decide) ?_
  refine w_putY (fk := 0) (v := .int (nI (0))) (ty := .int) [.int (nI (0)), .null, .int 0] hF hB rfl in_AL tyJx4a65c tyJx4a65c_ok nmJx4a65c (by decide) tw_1_42 (fun _ h => h) rfl (by decide +kernel) rfl rfl (Nat.le_of_ble_eq_true rfl) rfl dJxc12de_init_da8c8_6 (fun H locs hB => ?_)
  exact w_vret hF hr hlocks hB (rfl) dJxc12de_init_da8c8_9
set_option maxHeartbeats 4000000 in
set_option maxRecDepth 100000 in
theorem c_Jx4a65c_init_da8c8 (l : Launch) (env : Ev) (s0 : Nat) (X : va_W) (u : St) (a0 : Nat) (i : Nat) (hL : Lv u) (hf : (2, i) ∉ sK u) (h5 : ∀ w, (5, w) ∈ sK u → 3 + w ≠ i) (h1 : sM u 1 i = 0) (h2 : sM u 2 i = 0) (h3 : sA u 3 0 = env.2.2.1) (h4 : gN u.2.1 3 i 0 = 0) : Met l yJx4a65c_init_da8c8 [Cond.code yJx4a65c_init_da8c8 cJx4a65c_init_da8c8 1 none] { frames := 3, cells := 0, slots := 0, locals := 52 } (va_Pc [.ref (a0)] (Pr env s0 ((a0, .inr (0, [.int 0, .null, .int 0])) :: X) u)) (va_Qv (fun u' => u' = mkK u 2 i a0) (Po env s0 X) (fun q => s0 ≤ q)) 0 0 (fun q => s0 ≤ q) := by
  refine Met.ofW (cc := cJx4a65c_init_da8c8) (maxL := 1) (ret := none) (by decide) rfl ?_
  intro p e s m args below meth c s₁ B hml hv
  obtain ⟨rfl, hv⟩ := hv
  have hx := B.exec
  have hb := B.bytes
  have hr := B.returns
  have hts : ∀ ww ∈ TT, ww.before #[.ref (a0)] s = true := fun ww hw => hv.2.1 ww hw _
  have hown : s.vm.findClass RJx4a65c = some m.cls := findClass_of_methodNamed B.named
  have hlocks := B.notSynchronized
  have hin : meth.name = "<init>" := (name_of_methodNamed B.named B.method).1
  have hF : CallFix p m c cJx4a65c_init_da8c8 1 s #[.ref (a0)] TT RJx4a65c := ⟨hx, hb, hml, hown, hts⟩
  have hB := Bd.entry hv
  have hl := lv_entry ([.ref (a0)]) (n := 1) (Nat.le_of_ble_eq_true rfl)
  rw [lg_entry_eq]
  generalize (lg_sl ([.ref (a0)]) ++ List.replicate (1 - (lg_sl ([.ref (a0)])).length) Slot.unset).toArray = ls at hl ⊢
  have hl : lv_has ls 1 [(0, .ref (a0))] := hl
  refine lv_aload_n hx hb dJx4a65c_init_da8c8_0 rfl (lv_at hl 0 rfl) ?_
  refine w_cv (r_I (As := []) (rest := []) hF hB (c_Jxc12de_init_da8c8 l env s0 X u (a0) ) ci_Jxc12de_init_da8c8 tw_1_31 ⟨rfl, rfl, by decide, by decide⟩ rfl hl.1 rfl (lv_room (by decide)) dJx4a65c_init_da8c8_1 ⟨Nat.le_of_ble_eq_true rfl, Nat.le_of_ble_eq_true rfl⟩) hB (fun u_3 H locs hq_2 hB => ?_)
  obtain rfl := hq_2
  refine lv_aload_n hx hb dJx4a65c_init_da8c8_4 rfl (lv_at hl 0 rfl) ?_
  refine w_defs hF hB tw_1_38 dJx4a65c_init_da8c8_5 ?_
  refine w_putY (fk := 1) (v := .ref (env.2.2.1)) (ty := (.array (.object "java/lang/Object"))) [.int 0, .ref (env.2.2.1), .int 0] hF hB rfl in_AL tyJx4a65c tyJx4a65c_ok nmJx4a65c (by decide) tw_1_40 (fun _ h => h) rfl (by decide +kernel) rfl rfl (Nat.le_of_ble_eq_true rfl) rfl dJx4a65c_init_da8c8_8 (fun H locs hB => ?_)
  replace hB := Bd.absorb (u' := mkK u 2 i a0) (k := 2) (i := i) hB rfl (mkK_A _ _ _ _) (by rw [cn_2]; show (.inr (0, [.int (nI (sM u 1 i)), .ref (sA (mkK u 2 i a0) 3 (sM u 2 i)), .int (nI (gN u.2.1 3 i 0))]) : va_E) = _; rw [mkK_k (by decide), h1, h2, h3, h4]; rfl) (cn_mkI hL (by decide) hf (fun w hw => ⟨fun z => absurd z (by decide), fun z => absurd z (by decide), fun _ => h5 w hw⟩))
  exact w_vret hF hr hlocks hB (rfl) dJx4a65c_init_da8c8_11
set_option maxHeartbeats 4000000 in
set_option maxRecDepth 100000 in
theorem c_J7_fill_53178 (l : Launch) (env : Ev) (s0 : Nat) (X : va_W) (u : St) (a0 : Nat) (w : Nat) (ha0 : At u 7 (w) a0) (xv : Int32)  : Met l yJ7_fill_53178 [Cond.code yJ7_fill_53178 cJ7_fill_53178 4 none] { frames := 0, cells := 0, slots := 0, locals := 0 } (va_Pc [.ref (a0), .int (xv)] (Pr env s0 X u)) (va_Qv (fun u' => u' = wC u (cFill u.2.1 w xv 12)) (Po env s0 X) (fun q => s0 ≤ q)) 0 0 (fun q => s0 ≤ q) := by
  refine Met.ofW (cc := cJ7_fill_53178) (maxL := 4) (ret := none) (by decide) rfl ?_
  intro p e s m args below meth c s₁ B hml hv
  obtain ⟨rfl, hv⟩ := hv
  have hx := B.exec
  have hb := B.bytes
  have hr := B.returns
  have hts : ∀ ww ∈ TT, ww.before #[.ref (a0), .int (xv)] s = true := fun ww hw => hv.2.1 ww hw _
  have hown : s.vm.findClass RJ7 = some m.cls := findClass_of_methodNamed B.named
  have hlocks := B.notSynchronized
  have hF : CallFix p m c cJ7_fill_53178 4 s #[.ref (a0), .int (xv)] TT RJ7 := ⟨hx, hb, hml, hown, hts⟩
  have hB := Bd.entry hv
  have hl := lv_entry ([.ref (a0), .int (xv)]) (n := 4) (Nat.le_of_ble_eq_true rfl)
  rw [lg_entry_eq]
  generalize (lg_sl ([.ref (a0), .int (xv)]) ++ List.replicate (4 - (lg_sl ([.ref (a0), .int (xv)])).length) Slot.unset).toArray = ls at hl ⊢
  have hl : lv_has ls 4 [(0, .ref (a0)), (1, .int (xv))] := hl
  refine lv_iconst (v := nI 0) hx hb dJ7_fill_53178_0 (by decide) ?_
  refine lv_istore_n (lv' := [(2, .int (nI (0))), (0, .ref (a0)), (1, .int (xv))]) hx hb dJ7_fill_53178_1 rfl hl (by decide) rfl (fun ls hl => ?_)
  refine lv_aload_n hx hb dJ7_fill_53178_2 rfl (lv_at hl 1 rfl) ?_
  refine w_alI hF hB ha0 (cn_7 env u (w)) dJ7_fill_53178_3 ?_
  refine lv_istore_n (lv' := [(3, .int (nI (12))), (2, .int (nI (0))), (0, .ref (a0)), (1, .int (xv))]) hx hb dJ7_fill_53178_4 rfl hl (by decide) rfl (fun ls hl => ?_)
  refine wloopH (σ := Heap × List Loc × Array Slot) (G := fun x => W p l e _ s m _ below meth c x.1 x.2.1 _ _ _ (F0 m 5 x.2.2 [])) (P := fun i_1 x => (True) ∧ Bd env s0 X (wC u (cFill u.2.1 w xv i_1)) s x.1 x.2.1 ∧ lv_has x.2.2 4 [(0, .ref (a0)), (1, .int (xv)), (2, .int (nI (i_1))), (3, .int (nI (12)))]) (N := 12) ?_ 0 (_, _, ls) (Nat.zero_le _) ⟨trivial, hB, lv_sub hl [2, 3, 1, 0] rfl⟩
  rintro i_1 ⟨H, locs, ls⟩ hi_2 ⟨hv_3, hB, hl⟩ ih5
  replace hB : Bd env s0 X (wC u (cFill u.2.1 w xv i_1)) s H locs := hB
  replace hl : lv_has ls 4 [(0, .ref (a0)), (1, .int (xv)), (2, .int (nI (i_1))), (3, .int (nI (12)))] := hl
  show W p l e _ s m _ below meth c H locs _ _ _ (F0 m 5 ls [])
  refine lv_iload_n hx hb dJ7_fill_53178_5 rfl (lv_at hl 2 rfl) ?_
  refine lv_iload_n hx hb dJ7_fill_53178_6 rfl (lv_at hl 3 rfl) ?_
  refine w_icge_n (tgt := 20) (by omega) (by decide) hx hb dJ7_fill_53178_7 (by decide) (fun c_4 => ?_) (fun c_4 => ?_)
  · exact w_vret hF hr hlocks hB (by rw [show i_1 = 12 by omega]) dJ7_fill_53178_20
  · refine lv_aload_n hx hb dJ7_fill_53178_10 rfl (lv_at hl 0 rfl) ?_
    refine lv_iload_n hx hb dJ7_fill_53178_11 rfl (lv_at hl 2 rfl) ?_
    refine lv_iload_n hx hb dJ7_fill_53178_12 rfl (lv_at hl 1 rfl) ?_
    refine w_iast (x := xv) hF hB ha0 (wC u (uI (cFill u.2.1 w xv i_1) 7 (w) (i_1) (xv))) (cn_7 env (wC u (cFill u.2.1 w xv i_1)) (w)) (by omega) (by decide) rfl rfl (cu_I7 env (wC u (cFill u.2.1 w xv i_1)) (w) (i_1) (xv)) dJ7_fill_53178_13 (fun H locs hB => ?_)
    refine lv_iinc (v := nI (i_1 + 1)) (lv' := [(2, .int (nI (i_1 + 1))), (0, .ref (a0)), (1, .int (xv)), (3, .int (nI (12)))]) hx hb dJ7_fill_53178_14 hl (k := 2) rfl (nI_add _ _) (by decide) rfl (fun ls hl => ?_)
    refine lv_goto (tgt := 5) hx hb dJ7_fill_53178_17 (by decide) ?_
    have em_5 : (cFill u.2.1 w xv ((i_1 + 1))) = (uI (cFill u.2.1 w xv i_1) 7 (w) (i_1) (xv)) := by first | rfl | simp [cFill_s, c_4]
    exact ih5 (H, locs, ls) (by omega) ⟨trivial, (by rw [em_5]; exact hB), by exact lv_sub hl [1, 2, 0, 3] rfl⟩
set_option maxHeartbeats 4000000 in
set_option maxRecDepth 100000 in
theorem c_X1_init (l : Launch) (env : Ev) (s0 : Nat) (X : va_W) (u : St) (a0 : Nat) (w : Nat) (hw : w < 4) (hL : Lv u) (hf5 : (5, w) ∉ sK u) (hf6 : (6, w) ∉ sK u) (hf7 : (7, w) ∉ sK u) (hf2 : (2, 3 + w) ∉ sK u) (h5 : ∀ z, (5, z) ∈ sK u → z ≠ w) (h1 : sM u 1 (3 + w) = 0) (h2 : sM u 2 (3 + w) = 0) (h3 : sA u 3 0 = env.2.2.1) (h4 : gN u.2.1 3 (3 + w) 0 = 0) (h6 : ∀ j, gN u.2.1 6 w j = 0) (h7 : ∀ j, gI u.2.1 7 w j = 0) : Met l yX1_init [Cond.code yX1_init cX1_init 2 none] { frames := 4, cells := 3, slots := 19, locals := 72 } (va_Pc [.ref (a0), .int (nI (w))] (Pr env s0 ((a0, .inr (2, [.int 0, .null, .null, .null])) :: X) u)) (va_Qv (fun u' => ∃ q6 qa qh, u' = mkS u a0 q6 qa qh w) (Po env s0 X) (fun q => s0 ≤ q)) 3 19 (fun q => s0 ≤ q) := by
  refine Met.ofW (cc := cX1_init) (maxL := 2) (ret := none) (by decide) rfl ?_
  intro p e s m args below meth c s₁ B hml hv
  obtain ⟨rfl, hv⟩ := hv
  have hx := B.exec
  have hb := B.bytes
  have hr := B.returns
  have hts : ∀ ww ∈ TT, ww.before #[.ref (a0), .int (nI (w))] s = true := fun ww hw => hv.2.1 ww hw _
  have hown : s.vm.findClass RX1 = some m.cls := findClass_of_methodNamed B.named
  have hlocks := B.notSynchronized
  have hin : meth.name = "<init>" := (name_of_methodNamed B.named B.method).1
  have hF : CallFix p m c cX1_init 2 s #[.ref (a0), .int (nI (w))] TT RX1 := ⟨hx, hb, hml, hown, hts⟩
  have hB := Bd.entry hv
  have hl := lv_entry ([.ref (a0), .int (nI (w))]) (n := 2) (Nat.le_of_ble_eq_true rfl)
  rw [lg_entry_eq]
  generalize (lg_sl ([.ref (a0), .int (nI (w))]) ++ List.replicate (2 - (lg_sl ([.ref (a0), .int (nI (w))])).length) Slot.unset).toArray = ls at hl ⊢
  have hl : lv_has ls 2 [(0, .ref (a0)), (1, .int (nI (w)))] := hl
  refine lv_aload_n hx hb dX1_init_0 rfl (lv_at hl 0 rfl) ?_
  refine W.objInit hx hb hown (hts _ tw_1_56) (hts _ tw_1_22) (hts _ tw_1_23) rfl (by rw [hml]; exact hl.1) rfl dX1_init_1 (Nat.le_of_ble_eq_true rfl) (Nat.le_of_ble_eq_true rfl) ?_
  refine W.eq (g2 := F0 m 4 ls []) rfl ?_
  refine lv_aload_n hx hb dX1_init_4 rfl (lv_at hl 0 rfl) ?_
  refine lv_iconst (v := nI 4) hx hb dX1_init_5 (by decide) ?_
  refine w_newI hF hB tw_1_80 (by decide) (Nat.le_of_ble_eq_true rfl) (Nat.le_of_ble_eq_true rfl) dX1_init_6 (fun q6 H hB => ?_)
  replace hB := Bd.absorb (u' := (mkK u 6 w q6)) (k := 6) (i := w) hB rfl (mkK_A _ _ _ _) (by rw [cn_6]; show (.inl (env.2.1 0, 4, .inl (fun j => nI (gN u.2.1 6 w j))) : va_E) = _; simp only [h6] <;> rfl) (cn_mkI hL (by decide) hf6 (fun z hz => by have := h5 z (hz); omega))
  refine w_putX (fk := 1) (v := .ref (q6)) (ty := (.array .int)) [.int 0, .ref (q6), .null, .null] hF hB rfl in_X1 tyX1 tyX1_ok nmX1 (by decide) tw_1_65 (fun _ h => h) rfl hin rfl (by decide +kernel) rfl rfl (Nat.le_of_ble_eq_true rfl) rfl dX1_init_8 (fun H locs hB => ?_)
  refine lv_aload_n hx hb dX1_init_11 rfl (lv_at hl 0 rfl) ?_
  refine w_new (ci := 0) (fs := [.int 0, .null, .int 0]) hF hB rfl in_AL tyJx4a65c tyJx4a65c_ok tw_1_57 tw_1_27 tw_1_4 (fun j hj => by match j, hj with | 0, _ => rfl | 1, _ => rfl | 2, _ => rfl | n + 3, h => exact absurd h (by omega)) (Nat.le_of_ble_eq_true rfl) (Nat.le_of_ble_eq_true rfl) dX1_init_12 (fun qa H hB => ?_)
  refine lv_dup hx hb dX1_init_15 rfl ?_
  refine w_cv (r_I (As := []) (rest := [.ref (qa), .ref (a0)]) hF hB (c_Jx4a65c_init_da8c8 l env s0 ((a0, .inr (2, [.int 0, .ref (q6), .null, .null])) :: X) (mkK u 6 w q6) (qa) (3 + w) (Lv.k hL (by decide)) (mkK_n hf2 (by first | (left; decide) | (right; omega))) (fun z hz => by have := h5 z (((mkK_m.mp hz).resolve_right (by omega))); omega) h1 h2 (by rw [mkK_k (by decide)]; exact h3) h4) ci_Jx4a65c_init_da8c8 tw_1_58 ⟨rfl, rfl, Nat.le_of_ble_eq_true rfl, Nat.le_of_ble_eq_true rfl⟩ rfl hl.1 rfl (lv_room (Nat.le_of_ble_eq_true rfl)) dX1_init_16 ⟨Nat.le_of_ble_eq_true rfl, Nat.le_of_ble_eq_true rfl⟩) hB (fun u_3 H locs hq_2 hB => ?_)
  obtain rfl := hq_2
  refine w_putX (fk := 2) (v := .ref (qa)) (ty := (.object "java/util/ArrayList")) [.int 0, .ref (q6), .ref (qa), .null] hF hB rfl in_X1 tyX1 tyX1_ok nmX1 (by decide) tw_1_68 (fun _ h => h) rfl hin rfl (by decide +kernel) rfl rfl (Nat.le_of_ble_eq_true rfl) rfl dX1_init_19 (fun H locs hB => ?_)
  refine lv_aload_n hx hb dX1_init_22 rfl (lv_at hl 0 rfl) ?_
  refine lv_bipush (v := nI 12) hx hb dX1_init_23 (by decide) ?_
  refine w_newI hF hB tw_1_80 (by decide) (Nat.le_of_ble_eq_true rfl) (Nat.le_of_ble_eq_true rfl) dX1_init_25 (fun qh H hB => ?_)
  replace hB := Bd.absorb (u' := (mkK (mkK (mkK u 6 w q6) 2 (3 + w) qa) 7 w qh)) (k := 7) (i := w) hB rfl (mkK_A _ _ _ _) (by rw [cn_7]; show (.inl (env.2.1 0, 12, .inl (fun j => gI u.2.1 7 w j)) : va_E) = _; simp only [h7] <;> rfl) (cn_mkI (Lv.k (Lv.k hL (by decide)) (by decide)) (by decide) (mkK_n (mkK_n hf7 (by first | (left; decide) | (right; omega))) (by first | (left; decide) | (right; omega))) (fun z hz => by have := h5 z (((mkK_m.mp ((mkK_m.mp hz).resolve_right (by omega))).resolve_right (by omega))); omega))
  refine w_putX (fk := 3) (v := .ref (qh)) (ty := (.array .int)) [.int 0, .ref (q6), .ref (qa), .ref (qh)] hF hB rfl in_X1 tyX1 tyX1_ok nmX1 (by decide) tw_1_69 (fun _ h => h) rfl hin rfl (by decide +kernel) rfl rfl (Nat.le_of_ble_eq_true rfl) rfl dX1_init_27 (fun H locs hB => ?_)
  refine lv_aload_n hx hb dX1_init_30 rfl (lv_at hl 0 rfl) ?_
  refine lv_iload_n hx hb dX1_init_31 rfl (lv_at hl 1 rfl) ?_
  refine w_putX (fk := 0) (v := .int (nI (w))) (ty := .int) [.int (nI (w)), .ref (q6), .ref (qa), .ref (qh)] hF hB rfl in_X1 tyX1 tyX1_ok nmX1 (by decide) tw_1_62 (fun _ h => h) rfl hin rfl (by decide +kernel) rfl rfl (Nat.le_of_ble_eq_true rfl) rfl dX1_init_32 (fun H locs hB => ?_)
  refine lv_aload_n hx hb dX1_init_35 rfl (lv_at hl 0 rfl) ?_
  refine w_getX (fk := 3) (v := .ref (qh)) hF hB rfl in_X1 (by decide) tw_1_69 rfl rfl dX1_init_36 ?_
  refine lv_bipush (v := -4) hx hb dX1_init_39 (by decide) ?_
  refine w_cv (r_S (As := [.ref (qh), .int (-4)]) (rest := []) hF hB (c_J7_fill_53178 l env s0 ((a0, .inr (2, [.int (nI (w)), .ref (q6), .ref (qa), .ref (qh)])) :: X) (mkK (mkK (mkK u 6 w q6) 2 (3 + w) qa) 7 w qh) (qh) (w) (⟨mkK_m.mpr (Or.inr ⟨rfl, rfl⟩), mkK_A _ _ _ _⟩) (-4) ) cs_J7_fill_53178 tw_1_59 ⟨rfl, rfl, Nat.le_of_ble_eq_true rfl, Nat.le_of_ble_eq_true rfl⟩ rfl hl.1 rfl (lv_room (by decide)) dX1_init_41 ⟨Nat.le_of_ble_eq_true rfl, Nat.le_of_ble_eq_true rfl⟩) hB (fun u_6 H locs hq_5 hB => ?_)
  obtain rfl := hq_5
  replace hB : Bd env s0 ((a0, .inr (2, [.int (nI (w)), .ref (q6), .ref (qa), .ref (qh)])) :: X) (wC (mkK (mkK (mkK u 6 w q6) 2 (3 + w) qa) 7 w qh) (cFill u.2.1 w (-4) 12)) s H locs := hB
  replace hB := Bd.absorb (u' := mkS u a0 q6 qa qh w) (k := 5) (i := w) hB rfl (mkK_A _ _ _ _) (by rw [cn_5]; unfold mkS; rw [mkK_o (Or.inl (by decide)), mkK_o (Or.inl (by decide)), mkK_o (Or.inl (by decide))]; show (.inr (2, [.int (nI w), .ref (sA (mkK (mkK (mkK u 6 w q6) 2 (3 + w) qa) 7 w qh) 6 w), .ref (sA (mkK (mkK (mkK u 6 w q6) 2 (3 + w) qa) 7 w qh) 2 (3 + w)), .ref (sA (mkK (mkK (mkK u 6 w q6) 2 (3 + w) qa) 7 w qh) 7 w)]) : va_E) = _; rw [mkK_A, mkK_o (Or.inl (by decide)), mkK_o (Or.inl (by decide)), mkK_A, mkK_o (Or.inl (by decide)), mkK_A]) (cn_mkI (u := (wC (mkK (mkK (mkK u 6 w q6) 2 (3 + w) qa) 7 w qh) (cFill u.2.1 w (-4) 12))) (Lv.k (Lv.k (Lv.k hL (by decide)) (by decide)) (by decide)) (by decide) (mkK_n (mkK_n (mkK_n hf5 (by first | (left; decide) | (right; omega))) (by first | (left; decide) | (right; omega))) (by first | (left; decide) | (right; omega))) (fun z hz => ⟨fun y => absurd y (by decide), fun y => absurd y (by decide), fun y => absurd y (by decide)⟩))
  exact w_vret hF hr hlocks hB (⟨q6, qa, qh, rfl⟩) dX1_init_44

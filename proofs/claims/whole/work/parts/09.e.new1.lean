set_option maxHeartbeats 4000000 in
set_option maxRecDepth 100000 in
theorem c_X0_init (l : Launch) (env : Ev) (s0 : Nat) (X : va_W) (u : St) (a0 : Nat) (x : Nat) (a2 : Nat) (f : Nat) (ha2 : At u 5 (f) a2) (a3 : Nat) (t : Nat) (ha3 : At u 5 (t) a3) (a4 : Nat) (o : Nat) (ha4 : At u 8 (o) a4) (q : Nat) (hq : (14, q) ∉ sK u) : Met l yX0_init [Cond.code yX0_init cX0_init 5 none] { frames := 1, cells := 0, slots := 0, locals := 12 } (va_Pc [.ref (a0), .int (nI (x)), .ref (a2), .ref (a3), .ref (a4)] (Pr env s0 ((a0, .inr (1, [.int 0, .null, .null, .null])) :: X) u)) (va_Qv (fun u' => u' = mkM u a0 q x f t o) (Po env s0 X) (fun q => s0 ≤ q)) 0 0 (fun q => s0 ≤ q) := by
  refine Met.ofW (cc := cX0_init) (maxL := 5) (ret := none) (by decide) rfl ?_
  intro p e s m args below meth c s₁ B hml hv
  obtain ⟨rfl, hv⟩ := hv
  have hx := B.exec
  have hb := B.bytes
  have hr := B.returns
  have hts : ∀ ww ∈ TT, ww.before #[.ref (a0), .int (nI (x)), .ref (a2), .ref (a3), .ref (a4)] s = true := fun ww hw => hv.2.1 ww hw _
  have hown : s.vm.findClass RX0 = some m.cls := findClass_of_methodNamed B.named
  have hlocks := B.notSynchronized
  have hin : meth.name = "<init>" := (name_of_methodNamed B.named B.method).1
  have hF : CallFix p m c cX0_init 5 s #[.ref (a0), .int (nI (x)), .ref (a2), .ref (a3), .ref (a4)] TT RX0 := ⟨hx, hb, hml, hown, hts⟩
  have hB := Bd.entry hv
  have hl := lv_entry ([.ref (a0), .int (nI (x)), .ref (a2), .ref (a3), .ref (a4)]) (n := 5) (Nat.le_of_ble_eq_true rfl)
  rw [lg_entry_eq]
  generalize (lg_sl ([.ref (a0), .int (nI (x)), .ref (a2), .ref (a3), .ref (a4)]) ++ List.replicate (5 - (lg_sl ([.ref (a0), .int (nI (x)), .ref (a2), .ref (a3), .ref (a4)])).length) Slot.unset).toArray = ls at hl ⊢
  have hl : lv_has ls 5 [(0, .ref (a0)), (1, .int (nI (x))), (2, .ref (a2)), (3, .ref (a3)), (4, .ref (a4))] := hl
  refine lv_aload_n hx hb dX0_init_0 rfl (lv_at hl 0 rfl) ?_
  refine W.objInit hx hb hown (hts _ tw_2_154) (hts _ tw_1_22) (hts _ tw_1_23) rfl (by rw [hml]; exact hl.1) rfl dX0_init_1 (Nat.le_of_ble_eq_true rfl) (Nat.le_of_ble_eq_true rfl) ?_
  refine W.eq (g2 := F0 m 4 ls []) rfl ?_
  refine lv_aload_n hx hb dX0_init_4 rfl (lv_at hl 0 rfl) ?_
  refine lv_iload_n hx hb dX0_init_5 rfl (lv_at hl 1 rfl) ?_
  refine w_putX (fk := 0) (v := .int (nI (x))) (ty := .int) [.int (nI (x)), .null, .null, .null] hF hB rfl in_X0 tyX0 tyX0_ok nmX0 (by decide) tw_2_155 (fun _ h => h) rfl hin rfl (by decide +kernel) rfl rfl (Nat.le_of_ble_eq_true rfl) rfl dX0_init_6 (fun H locs hB => ?_)
  refine lv_aload_n hx hb dX0_init_9 rfl (lv_at hl 0 rfl) ?_
  refine lv_aload_n hx hb dX0_init_10 rfl (lv_at hl 2 rfl) ?_
  refine w_putX (fk := 1) (v := .ref (a2)) (ty := (.object "FarStore$Site")) [.int (nI (x)), .ref (a2), .null, .null] hF hB rfl in_X0 tyX0 tyX0_ok nmX0 (by decide) tw_2_157 (fun _ h => h) rfl hin rfl (by decide +kernel) rfl rfl (Nat.le_of_ble_eq_true rfl) rfl dX0_init_11 (fun H locs hB => ?_)
  refine lv_aload_n hx hb dX0_init_14 rfl (lv_at hl 0 rfl) ?_
  refine lv_aload_n hx hb dX0_init_15 rfl (lv_at hl 3 rfl) ?_
  refine w_putX (fk := 2) (v := .ref (a3)) (ty := (.object "FarStore$Site")) [.int (nI (x)), .ref (a2), .ref (a3), .null] hF hB rfl in_X0 tyX0 tyX0_ok nmX0 (by decide) tw_2_159 (fun _ h => h) rfl hin rfl (by decide +kernel) rfl rfl (Nat.le_of_ble_eq_true rfl) rfl dX0_init_16 (fun H locs hB => ?_)
  refine lv_aload_n hx hb dX0_init_19 rfl (lv_at hl 0 rfl) ?_
  refine lv_aload hx hb dX0_init_20 (lv_at hl 4 rfl) ?_
  refine w_putX (fk := 3) (v := .ref (a4)) (ty := (.object "FarStore$Transaction")) [.int (nI (x)), .ref (a2), .ref (a3), .ref (a4)] hF hB rfl in_X0 tyX0 tyX0_ok nmX0 (by decide) tw_2_161 (fun _ h => h) rfl hin rfl (by decide +kernel) rfl rfl (Nat.le_of_ble_eq_true rfl) rfl dX0_init_22 (fun H locs hB => ?_)
  replace hB := Bd.absorb (u' := mkM u a0 q x f t o) (k := 14) (i := q) hB rfl (mkM_A u a0 q x f t o) (by rw [cn_mkM_new, ha2.2, ha3.2, ha4.2]) (cn_mkM env u a0 q x f t o hq)
  exact w_vret hF hr hlocks hB (rfl) dX0_init_25
set_option maxHeartbeats 4000000 in
set_option maxRecDepth 100000 in
theorem c_X4_post (l : Launch) (env : Ev) (s0 : Nat) (X : va_W) (u : St) (a0 : Nat) (_xa0 : Nat) (ha0 : At u 0 (0) a0) (x : Nat) (a2 : Nat) (f : Nat) (ha2 : At u 5 (f) a2) (a3 : Nat) (t : Nat) (ha3 : At u 5 (t) a3) (a4 : Nat) (o : Nat) (ha4 : At u 8 (o) a4) (hZ : SZ env u) (hNb : Nb u.2.1) (hrb : Rb u.2.1 1) (hf4 : f < 4) (ht4 : t < 4) : Met l yX4_post [Cond.code yX4_post cX4_post 5 none] { frames := 7, cells := 2, slots := 2744, locals := 171 } (va_Pc [.ref (a0), .int (nI (x)), .ref (a2), .ref (a3), .ref (a4)] (Pr env s0 X u)) (va_Qv (fun u' => ∃ ph, u' = (ph, cPost u.2.1 (x) (f) (t) (o), u.2.2) ∧ SZ env (ph, cPost u.2.1 (x) (f) (t) (o), u.2.2) ∧ Kp u (ph, cPost u.2.1 (x) (f) (t) (o), u.2.2)) (Po env s0 X) (fun q => s0 ≤ q)) 2 2744 (fun q => s0 ≤ q) := by
  refine Met.ofW (cc := cX4_post) (maxL := 5) (ret := none) (by decide) rfl ?_
  intro p e s m args below meth c s₁ B hml hv
  obtain ⟨rfl, hv⟩ := hv
  have hx := B.exec
  have hb := B.bytes
  have hr := B.returns
  have hts : ∀ ww ∈ TT, ww.before #[.ref (a0), .int (nI (x)), .ref (a2), .ref (a3), .ref (a4)] s = true := fun ww hw => hv.2.1 ww hw _
  have hown : s.vm.findClass RX4 = some m.cls := findClass_of_methodNamed B.named
  have hlocks := B.notSynchronized
  have hF : CallFix p m c cX4_post 5 s #[.ref (a0), .int (nI (x)), .ref (a2), .ref (a3), .ref (a4)] TT RX4 := ⟨hx, hb, hml, hown, hts⟩
  have hB := Bd.entry hv
  have hl := lv_entry ([.ref (a0), .int (nI (x)), .ref (a2), .ref (a3), .ref (a4)]) (n := 5) (Nat.le_of_ble_eq_true rfl)
  rw [lg_entry_eq]
  generalize (lg_sl ([.ref (a0), .int (nI (x)), .ref (a2), .ref (a3), .ref (a4)]) ++ List.replicate (5 - (lg_sl ([.ref (a0), .int (nI (x)), .ref (a2), .ref (a3), .ref (a4)])).length) Slot.unset).toArray = ls at hl ⊢
  have hl : lv_has ls 5 [(0, .ref (a0)), (1, .int (nI (x))), (2, .ref (a2)), (3, .ref (a3)), (4, .ref (a4))] := hl
  have hI := hZ.1
  have ho := (hI.tx ha4.1).1
  have hrb2 := hrb
  unfold Rb at hrb2
  have hfr : (14, gN u.2.1 32 0 0) ∉ sK u := fun z => by have := hZ.2.1 _ z; omega
  refine lv_aload_n hx hb dX4_post_0 rfl (lv_at hl 0 rfl) ?_
  refine w_get (v := .ref (sA u 2 (2))) (fk := 5) hF hB ha0 (cn_0 env u (0)) rfl in_X4 (by decide) tw_1_86 rfl rfl dX4_post_1 ?_
  refine w_new (ci := 1) (fs := [.int 0, .null, .null, .null]) hF hB rfl in_X0 tyX0 tyX0_ok tw_2_149 tw_2_150 tw_1_15 (fun j hj => by match j, hj with | 0, _ => rfl | 1, _ => rfl | 2, _ => rfl | 3, _ => rfl | n + 4, h => exact absurd h (by omega)) (Nat.le_of_ble_eq_true rfl) (Nat.le_of_ble_eq_true rfl) dX4_post_4 (fun qm H hB => ?_)
  refine lv_dup hx hb dX4_post_7 rfl ?_
  refine lv_iload_n hx hb dX4_post_8 rfl (lv_at hl 1 rfl) ?_
  refine lv_aload_n hx hb dX4_post_9 rfl (lv_at hl 2 rfl) ?_
  refine lv_aload_n hx hb dX4_post_10 rfl (lv_at hl 3 rfl) ?_
  refine lv_aload hx hb dX4_post_11 (lv_at hl 4 rfl) ?_
  refine w_cv (r_IN (As := [.int (nI (x)), .ref (a2), .ref (a3), .ref (a4)]) (rest := [.ref (qm), .ref (sA u 2 (2))]) hF hB (c_X0_init l env s0 X u (qm) (x) (a2) (f) (ha2) (a3) (t) (ha3) (a4) (o) (ha4) (gN u.2.1 32 0 0) hfr) ci_X0_init tw_2_151 ⟨rfl, rfl, Nat.le_of_ble_eq_true rfl, Nat.le_of_ble_eq_true rfl⟩ rfl hl.1 rfl (lv_room (Nat.le_of_ble_eq_true rfl)) dX4_post_13 ⟨Nat.le_of_ble_eq_true rfl, Nat.le_of_ble_eq_true rfl⟩) hB (fun u_3 H locs hq_2 hB => ?_)
  obtain rfl := hq_2
  replace hB := Bd.toP hB
  obtain ⟨hP, hO, hOb, hKm, hsq⟩ := SZ.mkPa (a := qm) (x := x) (f := f) (t := t) (o := o) hZ
  obtain ⟨p3, p2, pd1, pd0, ple, pcp⟩ := hP.add (i := 2) (by decide)
  refine w_ci (r_V (As := [.ref (qm)]) (rest := []) hF hB (c_Jx4a65c_add_9ea2d l env s0 X (mkP u qm x f t o) (sA u 2 (2)) (2) ((hKm.at (by decide) ⟨(hI.k2 (by decide)), rfl⟩)) (qm) (hOb) p3 p2 pd1 pd0 (by rw [hsq]; omega) ple pcp hO 2740 (by rw [hsq]; omega)) cv_Jx4a65c_add_9ea2d tw_1_141 ⟨rfl, rfl, Nat.le_of_ble_eq_true rfl, Nat.le_of_ble_eq_true rfl⟩ (hB.recv (hKm.at (by decide) ⟨(hI.k2 (by decide)), rfl⟩) (cn_2 env (mkP u qm x f t o) (2)) rfl) rfl hl.1 rfl (lv_room (by decide)) dX4_post_16 ⟨Nat.le_of_ble_eq_true rfl, Nat.le_of_ble_eq_true rfl⟩) hB (fun r_4 u_6 H locs hq_5 hB => ?_)
  obtain ⟨rfl, q', rfl⟩ := hq_5
  obtain ⟨ph, he0, hZ1, hK1⟩ := SZ.post (a := qm) (x := x) (f := f) (t := t) (o := o) hZ hf4 ht4 ho (by omega)
  rw [he0] at hB
  show W p l e _ s m _ below meth c H locs _ _ _ (F0 m _ ls [.int (nI (1))])
  refine lv_pop hx hb dX4_post_19 rfl ?_
  exact w_vret hF hr hlocks hB (⟨ph, rfl, hZ1, hK1⟩) dX4_post_20

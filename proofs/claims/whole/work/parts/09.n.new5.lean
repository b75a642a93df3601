set_option maxHeartbeats 4000000 in
set_option maxRecDepth 100000 in
theorem c_X2_init (l : Launch) (env : Ev) (s0 : Nat) (X : va_W) (u : St) (a0 : Nat) (n : Nat) (a2 : Nat) (w : Nat) (ha2 : At u 5 (w) a2) (b : Bool) (hq : (4, n) ∉ sK u) : Met l yX2_init [Cond.code yX2_init cX2_init 4 none] { frames := 1, cells := 0, slots := 0, locals := 12 } (va_Pc [.ref (a0), .int (nI (n)), .ref (a2), .int (b2i (b))] (Pr env s0 ((a0, .inr (3, [.int 0, .null, .int 0])) :: X) u)) (va_Qv (fun u' => u' = mkT u a0 n w b) (Po env s0 X) (fun q => s0 ≤ q)) 0 0 (fun q => s0 ≤ q) := by
  refine Met.ofW (cc := cX2_init) (maxL := 4) (ret := none) (by decide) rfl ?_
  intro p e s m args below meth c s₁ B hml hv
  obtain ⟨rfl, hv⟩ := hv
  have hx := B.exec
  have hb := B.bytes
  have hr := B.returns
  have hts : ∀ ww ∈ TT, ww.before #[.ref (a0), .int (nI (n)), .ref (a2), .int (b2i (b))] s = true := fun ww hw => hv.2.1 ww hw _
  have hown : s.vm.findClass RX2 = some m.cls := findClass_of_methodNamed B.named
  have hlocks := B.notSynchronized
  have hin : meth.name = "<init>" := (name_of_methodNamed B.named B.method).1
  have hF : CallFix p m c cX2_init 4 s #[.ref (a0), .int (nI (n)), .ref (a2), .int (b2i (b))] TT RX2 := ⟨hx, hb, hml, hown, hts⟩
  have hB := Bd.entry hv
  have hl := lv_entry ([.ref (a0), .int (nI (n)), .ref (a2), .int (b2i (b))]) (n := 4) (Nat.le_of_ble_eq_true rfl)
  rw [lg_entry_eq]
  generalize (lg_sl ([.ref (a0), .int (nI (n)), .ref (a2), .int (b2i (b))]) ++ List.replicate (4 - (lg_sl ([.ref (a0), .int (nI (n)), .ref (a2), .int (b2i (b))])).length) Slot.unset).toArray = ls at hl ⊢
  have hl : lv_has ls 4 [(0, .ref (a0)), (1, .int (nI (n))), (2, .ref (a2)), (3, .int (b2i (b)))] := hl
  refine lv_aload_n hx hb dX2_init_0 rfl (lv_at hl 0 rfl) ?_
  refine W.objInit hx hb hown (hts _ tw_1_125) (hts _ tw_1_22) (hts _ tw_1_23) rfl (by rw [hml]; exact hl.1) rfl dX2_init_1 (Nat.le_of_ble_eq_true rfl) (Nat.le_of_ble_eq_true rfl) ?_
  refine W.eq (g2 := F0 m 4 ls []) rfl ?_
  refine lv_aload_n hx hb dX2_init_4 rfl (lv_at hl 0 rfl) ?_
  refine lv_iload_n hx hb dX2_init_5 rfl (lv_at hl 1 rfl) ?_
  refine w_putX (fk := 0) (v := .int (nI (n))) (ty := .int) [.int (nI (n)), .null, .int 0] hF hB rfl in_X2 tyX2 tyX2_ok nmX2 (by decide) tw_1_126 (fun _ h => h) rfl hin rfl (by decide +kernel) rfl rfl (Nat.le_of_ble_eq_true rfl) rfl dX2_init_6 (fun H locs hB => ?_)
  refine lv_aload_n hx hb dX2_init_9 rfl (lv_at hl 0 rfl) ?_
  refine lv_aload_n hx hb dX2_init_10 rfl (lv_at hl 2 rfl) ?_
  refine w_putX (fk := 1) (v := .ref (a2)) (ty := (.object "FarStore$Site")) [.int (nI (n)), .ref (a2), .int 0] hF hB rfl in_X2 tyX2 tyX2_ok nmX2 (by decide) tw_1_130 (fun _ h => h) rfl hin rfl (by decide +kernel) rfl rfl (Nat.le_of_ble_eq_true rfl) rfl dX2_init_11 (fun H locs hB => ?_)
  refine lv_aload_n hx hb dX2_init_14 rfl (lv_at hl 0 rfl) ?_
  refine lv_iload_n hx hb dX2_init_15 rfl (lv_at hl 3 rfl) ?_
  refine w_putX (fk := 2) (v := .int (b2i (b))) (ty := .boolean) [.int (nI (n)), .ref (a2), .int (b2i (b))] hF hB rfl in_X2 tyX2 tyX2_ok nmX2 (by decide) tw_1_132 (fun _ h => h) rfl hin rfl (by decide +kernel) (b2i_nar _) (b2i_fit _) (Nat.le_of_ble_eq_true rfl) rfl dX2_init_16 (fun H locs hB => ?_)
  replace hB : Bd env s0 ((a0, .inr (3, [.int (nI (n)), .ref (a2), .int (b2i (b))])) :: X) (wC u (gTh u.2.1 n w b)) s H locs := hB.ghost rfl (fun k i hk => ⟨rfl, cn_th env u n w b hq k i hk⟩)
  replace hB := Bd.absorb (u' := mkT u a0 n w b) (k := 4) (i := n) hB rfl (mkK_A _ _ _ _) (by rw [cn_4]; show (.inr (3, [.int (nI n), .ref (sA (mkK (wC u (gTh u.2.1 n w b)) 4 n a0) 5 (gN (gTh u.2.1 n w b) 25 n 0)), .int (b2i (gB (gTh u.2.1 n w b) 4 n 0))]) : va_E) = _; rw [gTh_25, gTh_4, if_pos rfl, if_pos rfl, mkK_k (by decide)]; show (.inr (3, [.int (nI n), .ref (sA u 5 w), .int (b2i b)]) : va_E) = _; rw [ha2.2]) (cn_K4 (u := wC u (gTh u.2.1 n w b)) hq)
  exact w_vret hF hr hlocks hB (rfl) dX2_init_19
set_option maxHeartbeats 4000000 in
set_option maxRecDepth 100000 in
theorem c_X4_thing (l : Launch) (env : Ev) (s0 : Nat) (X : va_W) (u : St) (a0 : Nat) (_xa0 : Nat) (ha0 : At u 0 (0) a0) (v1 : Int32) (b : Bool) (hZ : SZ env u) (hNb : Nb u.2.1) : Met l yX4_thing [Cond.code yX4_thing cX4_thing 5 (some .int)] { frames := 7, cells := kc ((cthing u.2.1 v1 b).2) - kc u.2.1, slots := ks ((cthing u.2.1 v1 b).2) - ks u.2.1, locals := 171 } (va_Pc [.ref (a0), .int (v1), .int (b2i (b))] (Pr env s0 X u)) (va_Qi (fun r u' => ∃ ph, u' = (ph, (cthing u.2.1 v1 b).2, u.2.2) ∧ SZ env (ph, (cthing u.2.1 v1 b).2, u.2.2) ∧ Kp u (ph, (cthing u.2.1 v1 b).2, u.2.2) ∧ r = (cthing u.2.1 v1 b).1) (Po env s0 X) (fun q => s0 ≤ q)) (kc ((cthing u.2.1 v1 b).2) - kc u.2.1) (ks ((cthing u.2.1 v1 b).2) - ks u.2.1) (fun q => s0 ≤ q) := by
  refine Met.ofW (cc := cX4_thing) (maxL := 5) (ret := (some .int)) (by decide) rfl ?_
  intro p e s m args below meth c s₁ B hml hv
  obtain ⟨rfl, hv⟩ := hv
  have hx := B.exec
  have hb := B.bytes
  have hr := B.returns
  have hts : ∀ ww ∈ TT, ww.before #[.ref (a0), .int (v1), .int (b2i (b))] s = true := fun ww hw => hv.2.1 ww hw _
  have hown : s.vm.findClass RX4 = some m.cls := findClass_of_methodNamed B.named
  have hlocks := B.notSynchronized
  have hF : CallFix p m c cX4_thing 5 s #[.ref (a0), .int (v1), .int (b2i (b))] TT RX4 := ⟨hx, hb, hml, hown, hts⟩
  have hB := Bd.entry hv
  have hl := lv_entry ([.ref (a0), .int (v1), .int (b2i (b))]) (n := 5) (Nat.le_of_ble_eq_true rfl)
  rw [lg_entry_eq]
  generalize (lg_sl ([.ref (a0), .int (v1), .int (b2i (b))]) ++ List.replicate (5 - (lg_sl ([.ref (a0), .int (v1), .int (b2i (b))])).length) Slot.unset).toArray = ls at hl ⊢
  have hl : lv_has ls 5 [(0, .ref (a0)), (1, .int (v1)), (2, .int (b2i (b)))] := hl
  have hI := hZ.1
  have hn4 := hI.nst
  have hn1 := hI.nth
  have hn2 := hI.ntx
  refine lv_aload_n hx hb dX4_thing_0 rfl (lv_at hl 0 rfl) ?_
  refine lv_iload_n hx hb dX4_thing_1 rfl (lv_at hl 1 rfl) ?_
  refine w_cq (r_V (As := [.int (v1)]) (rest := []) hF hB (c_X4_findSite l env s0 X u (a0) (0) (ha0) (v1) hI hNb) cv_X4_findSite tw_1_112 ⟨rfl, rfl, Nat.le_of_ble_eq_true rfl, Nat.le_of_ble_eq_true rfl⟩ (hB.recv ha0 (cn_0 env u (0)) rfl) rfl hl.1 rfl (lv_room (by decide)) dX4_thing_2 ⟨(by show _ ≤ kc ((cthing u.2.1 v1 b).2) - kc u.2.1; first | omega | (dsimp only [wC]; omega)), (by show _ ≤ ks ((cthing u.2.1 v1 b).2) - ks u.2.1; first | omega | (dsimp only [wC]; omega))⟩) hB (fun r_1 u_3 H locs hq_2 hB => ?_)
  obtain ⟨rfl, rfl⟩ := hq_2
  rcases hj_5 : ix v1 (gN u.2.1 0 0 0) with _ | j_4
  · show W p l e _ s m _ below meth c H locs _ _ _ (F0 m _ ls [.null])
    refine lv_astore_nN (lv' := [(3, .null), (0, .ref (a0)), (1, .int (v1)), (2, .int (b2i (b)))]) hx hb dX4_thing_5 rfl hl (by decide) rfl (fun ls hl => ?_)
    refine lv_aload_nN hx hb dX4_thing_6 rfl (lv_at hl 0 rfl) ?_
    refine lv_ifnonnullN hx hb dX4_thing_7 ?_
    refine lv_iconst (v := -1) hx hb dX4_thing_10 (by decide) ?_
    refine W.widen (k := kc ((cthing u.2.1 v1 b).2) - kc u.2.1) (n := ks ((cthing u.2.1 v1 b).2) - ks u.2.1) (by first | omega | (dsimp only [wC]; omega)) (by first | omega | (dsimp only [wC]; omega)) ?_
    exact w_iret (v := -1) hF hr hlocks hB ((by rw [show cthing u.2.1 v1 b = (-1, u.2.1) from by first | (simp [cthing, hj_5]; done) | (simp [cthing, hj_5]; intro h; omega)]; exact ⟨u.1, rfl, hZ, Kp.rf u, rfl⟩)) dX4_thing_11
  · obtain ⟨hjl_6, rfl⟩ := ix_some (by have := hNb 0 0 0; omega) hj_5
    show W p l e _ s m _ below meth c H locs _ _ _ (F0 m _ ls [.ref (sA u 5 (j_4))])
    refine lv_astore_n (lv' := [(3, .ref (sA u 5 (j_4))), (0, .ref (a0)), (1, .int (nI (j_4))), (2, .int (b2i (b)))]) hx hb dX4_thing_5 rfl hl (by decide) rfl (fun ls hl => ?_)
    refine lv_aload_n hx hb dX4_thing_6 rfl (lv_at hl 0 rfl) ?_
    refine lv_ifnonnull (tgt := 12) hx hb dX4_thing_7 (by decide) ?_
    refine lv_aload_n hx hb dX4_thing_12 rfl (lv_at hl 1 rfl) ?_
    refine w_get (v := .ref (sA u 2 (0))) (fk := 3) hF hB ha0 (cn_0 env u (0)) rfl in_X4 (by decide) tw_1_84 rfl rfl dX4_thing_13 ?_
    refine w_ci (r_V (As := []) (rest := []) hF hB (c_Jx4a65c_size_8abf5 l env s0 X u (sA u 2 (0)) (0) (⟨(hI.k2 (by decide)), rfl⟩) ) cv_Jx4a65c_size_8abf5 tw_1_116 ⟨rfl, rfl, Nat.le_of_ble_eq_true rfl, Nat.le_of_ble_eq_true rfl⟩ (hB.recv ⟨(hI.k2 (by decide)), rfl⟩ (cn_2 env u (0)) rfl) rfl hl.1 rfl (lv_room (by decide)) dX4_thing_16 ⟨(by show _ ≤ kc ((cthing u.2.1 (nI j_4) b).2) - kc u.2.1; first | omega | (dsimp only [wC]; omega)), (by show _ ≤ ks ((cthing u.2.1 (nI j_4) b).2) - ks u.2.1; first | omega | (dsimp only [wC]; omega))⟩) hB (fun r_7 u_9 H locs hq_8 hB => ?_)
    obtain ⟨rfl, rfl⟩ := hq_8
    refine lv_istore (lv' := [(4, .int (nI (gN u.2.1 3 (0) 0))), (3, .ref (sA u 5 (j_4))), (0, .ref (a0)), (1, .int (nI (j_4))), (2, .int (b2i (b)))]) hx hb dX4_thing_19 hl (by decide) rfl (fun ls hl => ?_)
    refine lv_iload hx hb dX4_thing_21 (lv_at hl 0 rfl) ?_
    refine lv_bipush (v := nI 12) hx hb dX4_thing_23 (by decide) ?_
    refine w_iclt_n (tgt := 31) (by have := hNb 3 (0) 0; omega) (by decide) hx hb dX4_thing_25 (by decide) (fun c_10 => ?_) (fun c_10 => ?_)
    · have hE0 : cthing u.2.1 (nI j_4) b = (nI (gN u.2.1 3 0 0), cTh u.2.1 j_4 b) := by simp [cthing, hj_5, c_10]
      have hk0 : kc (cthing u.2.1 (nI j_4) b).2 = kc u.2.1 + 2 ∧ ks (cthing u.2.1 (nI j_4) b).2 = ks u.2.1 + 100 := by rw [hE0]; exact kc_th _ j_4 _
      refine lv_aload_n hx hb dX4_thing_31 rfl (lv_at hl 2 rfl) ?_
      refine w_get (v := .ref (sA u 2 (0))) (fk := 3) hF hB ha0 (cn_0 env u (0)) rfl in_X4 (by decide) tw_1_84 rfl rfl dX4_thing_32 ?_
      refine w_new (ci := 3) (fs := [.int 0, .null, .int 0]) hF hB rfl in_X2 tyX2 tyX2_ok tw_1_120 tw_1_121 tw_1_8 (fun j hj => by match j, hj with | 0, _ => rfl | 1, _ => rfl | 2, _ => rfl | n + 3, h => exact absurd h (by omega)) (by show _ ≤ kc ((cthing u.2.1 (nI j_4) b).2) - kc u.2.1; omega) (by show _ ≤ ks ((cthing u.2.1 (nI j_4) b).2) - ks u.2.1; omega) dX4_thing_35 (fun qm H hB => ?_)
      refine lv_dup hx hb dX4_thing_38 rfl ?_
      refine lv_iload hx hb dX4_thing_39 (lv_at hl 0 rfl) ?_
      refine lv_aload_n hx hb dX4_thing_41 rfl (lv_at hl 1 rfl) ?_
      refine lv_iload_n hx hb dX4_thing_42 rfl (lv_at hl 4 rfl) ?_
      refine w_cv (r_IN (As := [.int (nI (gN u.2.1 3 (0) 0)), .ref (sA u 5 (j_4)), .int (b2i (b))]) (rest := [.ref (qm), .ref (sA u 2 (0))]) hF hB (c_X2_init l env s0 X u (qm) (gN u.2.1 3 (0) 0) (sA u 5 (j_4)) (j_4) (⟨(hI.k5 (by omega)), rfl⟩) (b) (SZ.fr4 hZ)) ci_X2_init tw_1_122 ⟨rfl, rfl, Nat.le_of_ble_eq_true rfl, Nat.le_of_ble_eq_true rfl⟩ rfl hl.1 rfl (lv_room (Nat.le_of_ble_eq_true rfl)) dX4_thing_43 ⟨(by show _ ≤ kc ((cthing u.2.1 (nI j_4) b).2) - kc u.2.1; first | omega | (dsimp only [wC]; omega)), (by show _ ≤ ks ((cthing u.2.1 (nI j_4) b).2) - ks u.2.1; first | omega | (dsimp only [wC]; omega))⟩) hB (fun u_13 H locs hq_12 hB => ?_)
      obtain rfl := hq_12
      obtain ⟨hP, hO, hOb, hKm, hsq⟩ := SZ.mkTa (a := qm) (w := j_4) (b := b) hZ
      obtain ⟨p3, p2, pd1, pd0, ple, pcp⟩ := hP.add (i := 0) (by decide)
      refine w_ci (r_V (As := [.ref (qm)]) (rest := []) hF hB (c_Jx4a65c_add_9ea2d l env s0 X (mkT u qm (gN u.2.1 3 0 0) j_4 b) (sA u 2 (0)) (0) ((hKm.at (by decide) ⟨(hI.k2 (by decide)), rfl⟩)) (qm) (hOb) p3 p2 pd1 pd0 (by rw [hsq]; omega) ple pcp hO 40 (by rw [hsq]; omega)) cv_Jx4a65c_add_9ea2d tw_1_141 ⟨rfl, rfl, Nat.le_of_ble_eq_true rfl, Nat.le_of_ble_eq_true rfl⟩ (hB.recv (hKm.at (by decide) ⟨(hI.k2 (by decide)), rfl⟩) (cn_2 env (mkT u qm (gN u.2.1 3 0 0) j_4 b) (0)) rfl) rfl hl.1 rfl (lv_room (by decide)) dX4_thing_46 ⟨(by show _ ≤ kc ((cthing u.2.1 (nI j_4) b).2) - kc u.2.1; first | omega | (dsimp only [wC]; omega)), (by show _ ≤ ks ((cthing u.2.1 (nI j_4) b).2) - ks u.2.1; first | omega | (dsimp only [wC]; omega))⟩) hB (fun r_14 u_16 H locs hq_15 hB => ?_)
      obtain ⟨rfl, q', rfl⟩ := hq_15
      obtain ⟨ph, he0, hZ1, hK1⟩ := SZ.thg (a := qm) (w := j_4) (b := b) hZ (by omega) (by omega)
      rw [he0] at hB
      show W p l e _ s m _ below meth c H locs _ _ _ (F0 m _ ls [.int (nI (1))])
      refine lv_pop hx hb dX4_thing_49 rfl ?_
      refine lv_iload hx hb dX4_thing_50 (lv_at hl 0 rfl) ?_
      refine W.widen (k := kc ((cthing u.2.1 (nI j_4) b).2) - kc u.2.1) (n := ks ((cthing u.2.1 (nI j_4) b).2) - ks u.2.1) (by first | omega | (dsimp only [wC]; omega)) (by first | omega | (dsimp only [wC]; omega)) ?_
      exact w_iret (v := nI (gN u.2.1 3 (0) 0)) hF hr hlocks hB ((by rw [hE0]; exact ⟨_, rfl, hZ1, hK1, rfl⟩)) dX4_thing_52
    · refine lv_bipush (v := -3) hx hb dX4_thing_28 (by decide) ?_
      refine W.widen (k := kc ((cthing u.2.1 (nI j_4) b).2) - kc u.2.1) (n := ks ((cthing u.2.1 (nI j_4) b).2) - ks u.2.1) (by first | omega | (dsimp only [wC]; omega)) (by first | omega | (dsimp only [wC]; omega)) ?_
      exact w_iret (v := -3) hF hr hlocks hB ((by rw [show cthing u.2.1 (nI j_4) b = (-3, u.2.1) from by first | (simp [cthing, hj_5, c_10]; done) | (simp [cthing, hj_5, c_10]; intro h; omega)]; exact ⟨u.1, rfl, hZ, Kp.rf u, rfl⟩)) dX4_thing_30
set_option maxHeartbeats 4000000 in
set_option maxRecDepth 100000 in
theorem c_X3_init (l : Launch) (env : Ev) (s0 : Nat) (X : va_W) (u : St) (a0 : Nat) (t : Nat) (a2 : Nat) (w : Nat) (ha2 : At u 5 (w) a2) (hfr : ∀ k, 8 ≤ k → k ≤ 13 → (k, t) ∉ sK u) (hdf : Df u.2.1 t) (h6 : (6, w) ∈ sK u) (hms : ∀ q, (14, q) ∈ sK u → gN u.2.1 24 q 0 ≠ t) : Met l yX3_init [Cond.code yX3_init cX3_init 3 none] { frames := 1, cells := 5, slots := 128, locals := 40 } (va_Pc [.ref (a0), .int (nI (t)), .ref (a2)] (Pr env s0 ((a0, .inr (4, [.int 0, .null, .null, .null, .null, .null, .null, .int 0, .int 0, .int 0, .int 0, .int 0, .int 0, .int 0])) :: X) u)) (va_Qv (fun u' => ∃ q9 q10 q11 q12 q13, u' = mkX u a0 q9 q10 q11 q12 q13 t w) (Po env s0 X) (fun q => s0 ≤ q)) 5 128 (fun q => s0 ≤ q) := by
  refine Met.ofW (cc := cX3_init) (maxL := 3) (ret := none) (by decide) rfl ?_
  intro p e s m args below meth c s₁ B hml hv
  obtain ⟨rfl, hv⟩ := hv
  have hx := B.exec
  have hb := B.bytes
  have hr := B.returns
  have hts : ∀ ww ∈ TT, ww.before #[.ref (a0), .int (nI (t)), .ref (a2)] s = true := fun ww hw => hv.2.1 ww hw _
  have hown : s.vm.findClass RX3 = some m.cls := findClass_of_methodNamed B.named
  have hlocks := B.notSynchronized
  have hin : meth.name = "<init>" := (name_of_methodNamed B.named B.method).1
  have hF : CallFix p m c cX3_init 3 s #[.ref (a0), .int (nI (t)), .ref (a2)] TT RX3 := ⟨hx, hb, hml, hown, hts⟩
  have hB := Bd.entry hv
  have hl := lv_entry ([.ref (a0), .int (nI (t)), .ref (a2)]) (n := 3) (Nat.le_of_ble_eq_true rfl)
  rw [lg_entry_eq]
  generalize (lg_sl ([.ref (a0), .int (nI (t)), .ref (a2)]) ++ List.replicate (3 - (lg_sl ([.ref (a0), .int (nI (t)), .ref (a2)])).length) Slot.unset).toArray = ls at hl ⊢
  have hl : lv_has ls 3 [(0, .ref (a0)), (1, .int (nI (t))), (2, .ref (a2))] := hl
  replace hB : Bd env s0 ((a0, .inr (4, [.int 0, .null, .null, .null, .null, .null, .null, .int 0, .int 0, .int 0, .int 0, .int 0, .int 0, .int 0])) :: X) (wC u (cTx u.2.1 t w)) s s.heap [] := hB.ghost rfl (fun k i hk => ⟨rfl, cn_tx env u t w (hfr 8 (by decide) (by decide)) (hfr 9 (by decide) (by decide)) k i hk⟩)
  have hx9 : ∀ a q9 q10 q11 q12 q13 : Nat, sA (mkX u a q9 q10 q11 q12 q13 t w) 9 t = q9 := by intros; unfold mkX; rw [mkK_o (Or.inl (by decide))]; exact mkK_A _ _ _ _
  have hx10 : ∀ a q9 q10 q11 q12 q13 : Nat, sA (mkX u a q9 q10 q11 q12 q13 t w) 10 t = q10 := by intros; unfold mkX; rw [mkK_o (Or.inl (by decide))]; rw [mkK_o (Or.inl (by decide))]; rw [mkK_o (Or.inl (by decide))]; rw [mkK_o (Or.inl (by decide))]; rw [mkK_o (Or.inl (by decide))]; exact mkK_A _ _ _ _
  have hx11 : ∀ a q9 q10 q11 q12 q13 : Nat, sA (mkX u a q9 q10 q11 q12 q13 t w) 11 t = q11 := by intros; unfold mkX; rw [mkK_o (Or.inl (by decide))]; rw [mkK_o (Or.inl (by decide))]; rw [mkK_o (Or.inl (by decide))]; rw [mkK_o (Or.inl (by decide))]; exact mkK_A _ _ _ _
  have hx12 : ∀ a q9 q10 q11 q12 q13 : Nat, sA (mkX u a q9 q10 q11 q12 q13 t w) 12 t = q12 := by intros; unfold mkX; rw [mkK_o (Or.inl (by decide))]; rw [mkK_o (Or.inl (by decide))]; rw [mkK_o (Or.inl (by decide))]; exact mkK_A _ _ _ _
  have hx13 : ∀ a q9 q10 q11 q12 q13 : Nat, sA (mkX u a q9 q10 q11 q12 q13 t w) 13 t = q13 := by intros; unfold mkX; rw [mkK_o (Or.inl (by decide))]; rw [mkK_o (Or.inl (by decide))]; exact mkK_A _ _ _ _
  have hd14 := hdf.2.2.2.2.1
  have hd15 : gN (cTx u.2.1 t w) 15 t 0 = 0 := by rw [cTx_N _ _ _ (by decide)]; exact hdf.2.2.2.2.2.1
  have hd16 : gN (cTx u.2.1 t w) 16 t 0 = 0 := by rw [cTx_N _ _ _ (by decide)]; exact hdf.2.2.2.2.2.2.1
  have hd17 : gN (cTx u.2.1 t w) 17 t 0 = 0 := by rw [cTx_N _ _ _ (by decide)]; exact hdf.2.2.2.2.2.2.2.1
  have hd18 : gN (cTx u.2.1 t w) 18 t 0 = 0 := by rw [cTx_N _ _ _ (by decide)]; exact hdf.2.2.2.2.2.2.2.2.1
  have hd19 : gN (cTx u.2.1 t w) 19 t 0 = 0 := by rw [cTx_N _ _ _ (by decide)]; exact hdf.2.2.2.2.2.2.2.2.2.1
  have hd20 : gN (cTx u.2.1 t w) 20 t 0 = 0 := by rw [cTx_N _ _ _ (by decide)]; exact hdf.2.2.2.2.2.2.2.2.2.2
  refine lv_aload_n hx hb dX3_init_0 rfl (lv_at hl 0 rfl) ?_
  refine W.objInit hx hb hown (hts _ tw_1_204) (hts _ tw_1_22) (hts _ tw_1_23) rfl (by rw [hml]; exact hl.1) rfl dX3_init_1 (Nat.le_of_ble_eq_true rfl) (Nat.le_of_ble_eq_true rfl) ?_
  refine W.eq (g2 := F0 m 4 ls []) rfl ?_
  refine lv_aload_n hx hb dX3_init_4 rfl (lv_at hl 0 rfl) ?_
  refine lv_bipush (v := nI 12) hx hb dX3_init_5 (by decide) ?_
  refine w_newZ hF hB tw_2_32 (by decide) (Nat.le_of_ble_eq_true rfl) (Nat.le_of_ble_eq_true rfl) dX3_init_7 (fun q10 H hB => ?_)
  replace hB := Bd.absorb (u' := (mkK (wC u (cTx u.2.1 t w)) 10 t q10)) (k := 10) (i := t) hB rfl (mkK_A _ _ _ _) (by rw [cn_10]; show (.inl (env.2.1 2, 12, .inl (fun j => b2i (gB u.2.1 10 t j))) : va_E) = _; simp only [hdf.1] <;> rfl) (cn_mkK (by decide) (hfr 10 (by decide) (by decide)) (hfr 8 (by decide) (by decide)))
  refine w_putX (fk := 3) (v := .ref (q10)) (ty := (.array .boolean)) [.int 0, .null, .null, .ref (q10), .null, .null, .null, .int 0, .int 0, .int 0, .int 0, .int 0, .int 0, .int 0] hF hB rfl in_X3 tyX3 tyX3_ok nmX3 (by decide) tw_1_221 (fun _ h => h) rfl hin rfl (by decide +kernel) rfl rfl (Nat.le_of_ble_eq_true rfl) rfl dX3_init_9 (fun H locs hB => ?_)
  refine lv_aload_n hx hb dX3_init_12 rfl (lv_at hl 0 rfl) ?_
  refine lv_bipush (v := nI 12) hx hb dX3_init_13 (by decide) ?_
  refine w_newJ hF hB tw_2_33 (by decide) (Nat.le_of_ble_eq_true rfl) (Nat.le_of_ble_eq_true rfl) dX3_init_15 (fun q11 H hB => ?_)
  replace hB := Bd.absorb (u' := (mkK (mkK (wC u (cTx u.2.1 t w)) 10 t q10) 11 t q11)) (k := 11) (i := t) hB rfl (mkK_A _ _ _ _) (by rw [cn_11]; show (.inl (env.2.1 1, 12, .inr (.inl (fun j => gJ u.2.1 11 t j))) : va_E) = _; simp only [hdf.2.1] <;> rfl) (cn_mkK (by decide) (mkK_n (hfr 11 (by decide) (by decide)) (Or.inl (by decide))) (mkK_n (hfr 8 (by decide) (by decide)) (Or.inl (by decide))))
  refine w_putX (fk := 4) (v := .ref (q11)) (ty := (.array .long)) [.int 0, .null, .null, .ref (q10), .ref (q11), .null, .null, .int 0, .int 0, .int 0, .int 0, .int 0, .int 0, .int 0] hF hB rfl in_X3 tyX3 tyX3_ok nmX3 (by decide) tw_1_224 (fun _ h => h) rfl hin rfl (by decide +kernel) rfl rfl (Nat.le_of_ble_eq_true rfl) rfl dX3_init_17 (fun H locs hB => ?_)
  refine lv_aload_n hx hb dX3_init_20 rfl (lv_at hl 0 rfl) ?_
  refine lv_bipush (v := nI 96) hx hb dX3_init_21 (by decide) ?_
  refine w_newJ hF hB tw_2_33 (by decide) (Nat.le_of_ble_eq_true rfl) (Nat.le_of_ble_eq_true rfl) dX3_init_23 (fun q12 H hB => ?_)
  replace hB := Bd.absorb (u' := (mkK (mkK (mkK (wC u (cTx u.2.1 t w)) 10 t q10) 11 t q11) 12 t q12)) (k := 12) (i := t) hB rfl (mkK_A _ _ _ _) (by rw [cn_12]; show (.inl (env.2.1 1, 96, .inr (.inl (fun j => gJ u.2.1 12 t j))) : va_E) = _; simp only [hdf.2.2.1] <;> rfl) (cn_mkK (by decide) (mkK_n (mkK_n (hfr 12 (by decide) (by decide)) (Or.inl (by decide))) (Or.inl (by decide))) (mkK_n (mkK_n (hfr 8 (by decide) (by decide)) (Or.inl (by decide))) (Or.inl (by decide))))
  refine w_putX (fk := 5) (v := .ref (q12)) (ty := (.array .long)) [.int 0, .null, .null, .ref (q10), .ref (q11), .ref (q12), .null, .int 0, .int 0, .int 0, .int 0, .int 0, .int 0, .int 0] hF hB rfl in_X3 tyX3 tyX3_ok nmX3 (by decide) tw_1_227 (fun _ h => h) rfl hin rfl (by decide +kernel) rfl rfl (Nat.le_of_ble_eq_true rfl) rfl dX3_init_25 (fun H locs hB => ?_)
  refine lv_aload_n hx hb dX3_init_28 rfl (lv_at hl 0 rfl) ?_
  refine lv_iconst (v := nI 4) hx hb dX3_init_29 (by decide) ?_
  refine w_newZ hF hB tw_2_32 (by decide) (Nat.le_of_ble_eq_true rfl) (Nat.le_of_ble_eq_true rfl) dX3_init_30 (fun q13 H hB => ?_)
  replace hB := Bd.absorb (u' := (mkK (mkK (mkK (mkK (wC u (cTx u.2.1 t w)) 10 t q10) 11 t q11) 12 t q12) 13 t q13)) (k := 13) (i := t) hB rfl (mkK_A _ _ _ _) (by rw [cn_13]; show (.inl (env.2.1 2, 4, .inl (fun j => b2i (gB u.2.1 13 t j))) : va_E) = _; simp only [hdf.2.2.2.1] <;> rfl) (cn_mkK (by decide) (mkK_n (mkK_n (mkK_n (hfr 13 (by decide) (by decide)) (Or.inl (by decide))) (Or.inl (by decide))) (Or.inl (by decide))) (mkK_n (mkK_n (mkK_n (hfr 8 (by decide) (by decide)) (Or.inl (by decide))) (Or.inl (by decide))) (Or.inl (by decide))))
  refine w_putX (fk := 6) (v := .ref (q13)) (ty := (.array .boolean)) [.int 0, .null, .null, .ref (q10), .ref (q11), .ref (q12), .ref (q13), .int 0, .int 0, .int 0, .int 0, .int 0, .int 0, .int 0] hF hB rfl in_X3 tyX3 tyX3_ok nmX3 (by decide) tw_1_230 (fun _ h => h) rfl hin rfl (by decide +kernel) rfl rfl (Nat.le_of_ble_eq_true rfl) rfl dX3_init_32 (fun H locs hB => ?_)
  refine lv_aload_n hx hb dX3_init_35 rfl (lv_at hl 0 rfl) ?_
  refine lv_iconst (v := nI 0) hx hb dX3_init_36 (by decide) ?_
  refine w_putY (fk := 9) (v := .int (nI (0))) (ty := .int) [.int 0, .null, .null, .ref (q10), .ref (q11), .ref (q12), .ref (q13), .int 0, .int 0, .int (nI (0)), .int 0, .int 0, .int 0, .int 0] hF hB rfl in_X3 tyX3 tyX3_ok nmX3 (by decide) tw_1_235 (fun _ h => h) rfl (by decide +kernel) rfl rfl (Nat.le_of_ble_eq_true rfl) rfl dX3_init_37 (fun H locs hB => ?_)
  refine lv_aload_n hx hb dX3_init_40 rfl (lv_at hl 0 rfl) ?_
  refine lv_iload_n hx hb dX3_init_41 rfl (lv_at hl 1 rfl) ?_
  refine w_putX (fk := 0) (v := .int (nI (t))) (ty := .int) [.int (nI (t)), .null, .null, .ref (q10), .ref (q11), .ref (q12), .ref (q13), .int 0, .int 0, .int (nI (0)), .int 0, .int 0, .int 0, .int 0] hF hB rfl in_X3 tyX3 tyX3_ok nmX3 (by decide) tw_1_212 (fun _ h => h) rfl hin rfl (by decide +kernel) rfl rfl (Nat.le_of_ble_eq_true rfl) rfl dX3_init_42 (fun H locs hB => ?_)
  refine lv_aload_n hx hb dX3_init_45 rfl (lv_at hl 0 rfl) ?_
  refine lv_aload_n hx hb dX3_init_46 rfl (lv_at hl 2 rfl) ?_
  refine w_putX (fk := 1) (v := .ref (a2)) (ty := (.object "FarStore$Site")) [.int (nI (t)), .ref (a2), .null, .ref (q10), .ref (q11), .ref (q12), .ref (q13), .int 0, .int 0, .int (nI (0)), .int 0, .int 0, .int 0, .int 0] hF hB rfl in_X3 tyX3 tyX3_ok nmX3 (by decide) tw_1_215 (fun _ h => h) rfl hin rfl (by decide +kernel) rfl rfl (Nat.le_of_ble_eq_true rfl) rfl dX3_init_47 (fun H locs hB => ?_)
  refine lv_aload_n hx hb dX3_init_50 rfl (lv_at hl 0 rfl) ?_
  refine lv_aload_n hx hb dX3_init_51 rfl (lv_at hl 2 rfl) ?_
  refine w_getN (v := .ref (sA (mkK (mkK (mkK (mkK (wC u (cTx u.2.1 t w)) 10 t q10) 11 t q11) 12 t q12) 13 t q13) 6 (w))) (fk := 1) hF hB ((Kp.k (mkK_n (mkK_n (mkK_n (hfr 13 (by decide) (by decide)) (Or.inl (by decide))) (Or.inl (by decide))) (Or.inl (by decide)))).at (by decide) ((Kp.k (mkK_n (mkK_n (hfr 12 (by decide) (by decide)) (Or.inl (by decide))) (Or.inl (by decide)))).at (by decide) ((Kp.k (mkK_n (hfr 11 (by decide) (by decide)) (Or.inl (by decide)))).at (by decide) ((Kp.k (hfr 10 (by decide) (by decide))).at (by decide) (show At (wC u (cTx u.2.1 t w)) 5 w a2 from ha2))))) (cn_5 env (mkK (mkK (mkK (mkK (wC u (cTx u.2.1 t w)) 10 t q10) 11 t q11) 12 t q12) 13 t q13) (w)) rfl in_X1 (by decide) tw_1_66 rfl rfl dX3_init_52 ?_
  refine w_clone hF hB ⟨((Kp.k (mkK_n (mkK_n (mkK_n (hfr 13 (by decide) (by decide)) (Or.inl (by decide))) (Or.inl (by decide))) (Or.inl (by decide)))).at (by decide) ((Kp.k (mkK_n (mkK_n (hfr 12 (by decide) (by decide)) (Or.inl (by decide))) (Or.inl (by decide)))).at (by decide) ((Kp.k (mkK_n (hfr 11 (by decide) (by decide)) (Or.inl (by decide)))).at (by decide) ((Kp.k (hfr 10 (by decide) (by decide))).at (by decide) (show At (wC u (cTx u.2.1 t w)) 6 w (sA u 6 w) from ⟨h6, rfl⟩))))).1, rfl⟩ (cn_6 env (mkK (mkK (mkK (mkK (wC u (cTx u.2.1 t w)) 10 t q10) 11 t q11) 12 t q12) 13 t q13) (w)) hl.1 tw_1_205 tw_1_206 tw_1_207 tw_1_208 tw_1_209 tw_1_210 (Nat.le_of_ble_eq_true rfl) (Nat.le_of_ble_eq_true rfl) (Nat.le_of_ble_eq_true rfl) (Nat.le_of_ble_eq_true rfl) dX3_init_55 (fun q9 H hB => ?_)
  refine w_castI hF hB tw_1_211 dX3_init_58 ?_
  replace hB := Bd.absorb (u' := (mkK (mkK (mkK (mkK (mkK (wC u (cTx u.2.1 t w)) 10 t q10) 11 t q11) 12 t q12) 13 t q13) 9 t q9)) (k := 9) (i := t) hB rfl (mkK_A _ _ _ _) (by rw [cn_9]; show (.inl (env.2.1 0, 4, .inl (fun j => nI (gN (cTx u.2.1 t w) 9 t j))) : va_E) = .inl (env.2.1 0, 4, .inl (fun j => nI (gN (cTx u.2.1 t w) 6 w j))); simp only [cTx_9, if_true, cTx_N u.2.1 t w (n := 6) (by decide)]) (cn_mkK (by decide) (mkK_n (mkK_n (mkK_n (mkK_n (hfr 9 (by decide) (by decide)) (Or.inl (by decide))) (Or.inl (by decide))) (Or.inl (by decide))) (Or.inl (by decide))) (mkK_n (mkK_n (mkK_n (mkK_n (hfr 8 (by decide) (by decide)) (Or.inl (by decide))) (Or.inl (by decide))) (Or.inl (by decide))) (Or.inl (by decide))))
  refine w_putX (fk := 2) (v := .ref (q9)) (ty := (.array .int)) [.int (nI (t)), .ref (a2), .ref (q9), .ref (q10), .ref (q11), .ref (q12), .ref (q13), .int 0, .int 0, .int (nI (0)), .int 0, .int 0, .int 0, .int 0] hF hB rfl in_X3 tyX3 tyX3_ok nmX3 (by decide) tw_1_218 (fun _ h => h) rfl hin rfl (by decide +kernel) rfl rfl (Nat.le_of_ble_eq_true rfl) rfl dX3_init_61 (fun H locs hB => ?_)
  replace hB := Bd.absorb (u' := mkX u a0 q9 q10 q11 q12 q13 t w) (k := 8) (i := t) hB rfl (mkX_8 _ _ _ _ _ _ _ _ _) (by rw [cn_8]; show (.inr (4, [.int (nI t), .ref (sA (mkX u a0 q9 q10 q11 q12 q13 t w) 5 (gN (cTx u.2.1 t w) 26 t 0)), .ref (sA (mkX u a0 q9 q10 q11 q12 q13 t w) 9 t), .ref (sA (mkX u a0 q9 q10 q11 q12 q13 t w) 10 t), .ref (sA (mkX u a0 q9 q10 q11 q12 q13 t w) 11 t), .ref (sA (mkX u a0 q9 q10 q11 q12 q13 t w) 12 t), .ref (sA (mkX u a0 q9 q10 q11 q12 q13 t w) 13 t), .int (b2i (gB u.2.1 14 t 0)), .int (nI (gN (cTx u.2.1 t w) 15 t 0)), .int (nI (gN (cTx u.2.1 t w) 16 t 0)), .int (nI (gN (cTx u.2.1 t w) 17 t 0)), .int (nI (gN (cTx u.2.1 t w) 18 t 0)), .int (nI (gN (cTx u.2.1 t w) 19 t 0)), .int (nI (gN (cTx u.2.1 t w) 20 t 0))]) : va_E) = _; rw [hx9, hx10, hx11, hx12, hx13, mkX_A (by omega), cTx_26, if_pos ⟨rfl, rfl⟩, hd14, hd15, hd16, hd17, hd18, hd19, hd20, ha2.2]; rfl) (cn_mkK8 (mkK_n (mkK_n (mkK_n (mkK_n (mkK_n (hfr 8 (by decide) (by decide)) (Or.inl (by decide))) (Or.inl (by decide))) (Or.inl (by decide))) (Or.inl (by decide))) (Or.inl (by decide))) (fun q hq => by have := hms q (by replace hq := (mkK_m.mp hq).resolve_right (by omega); replace hq := (mkK_m.mp hq).resolve_right (by omega); replace hq := (mkK_m.mp hq).resolve_right (by omega); replace hq := (mkK_m.mp hq).resolve_right (by omega); replace hq := (mkK_m.mp hq).resolve_right (by omega); exact hq); show gN (cTx u.2.1 t w) 24 q 0 ≠ t; rw [cTx_N _ _ _ (by decide)]; exact this))
  exact w_vret hF hr hlocks hB (⟨q9, q10, q11, q12, q13, rfl⟩) dX3_init_64
set_option maxHeartbeats 4000000 in
set_option maxRecDepth 100000 in
theorem c_X4_begin (l : Launch) (env : Ev) (s0 : Nat) (X : va_W) (u : St) (a0 : Nat) (_xa0 : Nat) (ha0 : At u 0 (0) a0) (v1 : Int32) (hZ : SZ env u) (hNb : Nb u.2.1) (hdf : Df u.2.1 (gN u.2.1 3 1 0)) : Met l yX4_begin [Cond.code yX4_begin cX4_begin 4 (some .int)] { frames := 7, cells := kc ((cbegin u.2.1 v1).2) - kc u.2.1, slots := ks ((cbegin u.2.1 v1).2) - ks u.2.1, locals := 171 } (va_Pc [.ref (a0), .int (v1)] (Pr env s0 X u)) (va_Qi (fun r u' => ∃ ph, u' = (ph, (cbegin u.2.1 v1).2, u.2.2) ∧ SZ env (ph, (cbegin u.2.1 v1).2, u.2.2) ∧ Kp u (ph, (cbegin u.2.1 v1).2, u.2.2) ∧ r = (cbegin u.2.1 v1).1) (Po env s0 X) (fun q => s0 ≤ q)) (kc ((cbegin u.2.1 v1).2) - kc u.2.1) (ks ((cbegin u.2.1 v1).2) - ks u.2.1) (fun q => s0 ≤ q) := by
  refine Met.ofW (cc := cX4_begin) (maxL := 4) (ret := (some .int)) (by decide) rfl ?_
  intro p e s m args below meth c s₁ B hml hv
  obtain ⟨rfl, hv⟩ := hv
  have hx := B.exec
  have hb := B.bytes
  have hr := B.returns
  have hts : ∀ ww ∈ TT, ww.before #[.ref (a0), .int (v1)] s = true := fun ww hw => hv.2.1 ww hw _
  have hown : s.vm.findClass RX4 = some m.cls := findClass_of_methodNamed B.named
  have hlocks := B.notSynchronized
  have hF : CallFix p m c cX4_begin 4 s #[.ref (a0), .int (v1)] TT RX4 := ⟨hx, hb, hml, hown, hts⟩
  have hB := Bd.entry hv
  have hl := lv_entry ([.ref (a0), .int (v1)]) (n := 4) (Nat.le_of_ble_eq_true rfl)
  rw [lg_entry_eq]
  generalize (lg_sl ([.ref (a0), .int (v1)]) ++ List.replicate (4 - (lg_sl ([.ref (a0), .int (v1)])).length) Slot.unset).toArray = ls at hl ⊢
  have hl : lv_has ls 4 [(0, .ref (a0)), (1, .int (v1))] := hl
  have hI := hZ.1
  have hn4 := hI.nst
  have hn1 := hI.nth
  have hn2 := hI.ntx
  refine lv_aload_n hx hb dX4_begin_0 rfl (lv_at hl 0 rfl) ?_
  refine lv_iload_n hx hb dX4_begin_1 rfl (lv_at hl 1 rfl) ?_
  refine w_cq (r_V (As := [.int (v1)]) (rest := []) hF hB (c_X4_findSite l env s0 X u (a0) (0) (ha0) (v1) hI hNb) cv_X4_findSite tw_1_112 ⟨rfl, rfl, Nat.le_of_ble_eq_true rfl, Nat.le_of_ble_eq_true rfl⟩ (hB.recv ha0 (cn_0 env u (0)) rfl) rfl hl.1 rfl (lv_room (by decide)) dX4_begin_2 ⟨(by show _ ≤ kc ((cbegin u.2.1 v1).2) - kc u.2.1; first | omega | (dsimp only [wC]; omega)), (by show _ ≤ ks ((cbegin u.2.1 v1).2) - ks u.2.1; first | omega | (dsimp only [wC]; omega))⟩) hB (fun r_1 u_3 H locs hq_2 hB => ?_)
  obtain ⟨rfl, rfl⟩ := hq_2
  rcases hj_5 : ix v1 (gN u.2.1 0 0 0) with _ | j_4
  · show W p l e _ s m _ below meth c H locs _ _ _ (F0 m _ ls [.null])
    refine lv_astore_nN (lv' := [(2, .null), (0, .ref (a0)), (1, .int (v1))]) hx hb dX4_begin_5 rfl hl (by decide) rfl (fun ls hl => ?_)
    refine lv_aload_nN hx hb dX4_begin_6 rfl (lv_at hl 0 rfl) ?_
    refine lv_ifnonnullN hx hb dX4_begin_7 ?_
    refine lv_iconst (v := -1) hx hb dX4_begin_10 (by decide) ?_
    refine W.widen (k := kc ((cbegin u.2.1 v1).2) - kc u.2.1) (n := ks ((cbegin u.2.1 v1).2) - ks u.2.1) (by first | omega | (dsimp only [wC]; omega)) (by first | omega | (dsimp only [wC]; omega)) ?_
    exact w_iret (v := -1) hF hr hlocks hB ((by rw [show cbegin u.2.1 v1 = (-1, u.2.1) from by first | (simp [cbegin, hj_5]; done) | (simp [cbegin, hj_5]; intro h; omega)]; exact ⟨u.1, rfl, hZ, Kp.rf u, rfl⟩)) dX4_begin_11
  · obtain ⟨hjl_6, rfl⟩ := ix_some (by have := hNb 0 0 0; omega) hj_5
    show W p l e _ s m _ below meth c H locs _ _ _ (F0 m _ ls [.ref (sA u 5 (j_4))])
    refine lv_astore_n (lv' := [(2, .ref (sA u 5 (j_4))), (0, .ref (a0)), (1, .int (nI (j_4)))]) hx hb dX4_begin_5 rfl hl (by decide) rfl (fun ls hl => ?_)
    refine lv_aload_n hx hb dX4_begin_6 rfl (lv_at hl 0 rfl) ?_
    refine lv_ifnonnull (tgt := 12) hx hb dX4_begin_7 (by decide) ?_
    refine lv_aload_n hx hb dX4_begin_12 rfl (lv_at hl 1 rfl) ?_
    refine w_get (v := .ref (sA u 2 (1))) (fk := 4) hF hB ha0 (cn_0 env u (0)) rfl in_X4 (by decide) tw_1_85 rfl rfl dX4_begin_13 ?_
    refine w_ci (r_V (As := []) (rest := []) hF hB (c_Jx4a65c_size_8abf5 l env s0 X u (sA u 2 (1)) (1) (⟨(hI.k2 (by decide)), rfl⟩) ) cv_Jx4a65c_size_8abf5 tw_1_116 ⟨rfl, rfl, Nat.le_of_ble_eq_true rfl, Nat.le_of_ble_eq_true rfl⟩ (hB.recv ⟨(hI.k2 (by decide)), rfl⟩ (cn_2 env u (1)) rfl) rfl hl.1 rfl (lv_room (by decide)) dX4_begin_16 ⟨(by show _ ≤ kc ((cbegin u.2.1 (nI j_4)).2) - kc u.2.1; first | omega | (dsimp only [wC]; omega)), (by show _ ≤ ks ((cbegin u.2.1 (nI j_4)).2) - ks u.2.1; first | omega | (dsimp only [wC]; omega))⟩) hB (fun r_7 u_9 H locs hq_8 hB => ?_)
    obtain ⟨rfl, rfl⟩ := hq_8
    refine lv_istore_n (lv' := [(3, .int (nI (gN u.2.1 3 (1) 0))), (2, .ref (sA u 5 (j_4))), (0, .ref (a0)), (1, .int (nI (j_4)))]) hx hb dX4_begin_19 rfl hl (by decide) rfl (fun ls hl => ?_)
    refine lv_iload_n hx hb dX4_begin_20 rfl (lv_at hl 0 rfl) ?_
    refine lv_sipush (v := nI 150) hx hb dX4_begin_21 (by decide) ?_
    refine w_iclt_n (tgt := 30) (by have := hNb 3 (1) 0; omega) (by decide) hx hb dX4_begin_24 (by decide) (fun c_10 => ?_) (fun c_10 => ?_)
    · have hE0 : cbegin u.2.1 (nI j_4) = (nI (gN u.2.1 3 1 0), cBeg u.2.1 j_4) := by simp [cbegin, hj_5, c_10]
      have hk0 : kc (cbegin u.2.1 (nI j_4)).2 = kc u.2.1 + 8 ∧ ks (cbegin u.2.1 (nI j_4)).2 = ks u.2.1 + 500 := by rw [hE0]; exact kc_beg _ j_4
      refine lv_aload_n hx hb dX4_begin_30 rfl (lv_at hl 2 rfl) ?_
      refine w_get (v := .ref (sA u 2 (1))) (fk := 4) hF hB ha0 (cn_0 env u (0)) rfl in_X4 (by decide) tw_1_85 rfl rfl dX4_begin_31 ?_
      refine w_new (ci := 4) (fs := [.int 0, .null, .null, .null, .null, .null, .null, .int 0, .int 0, .int 0, .int 0, .int 0, .int 0, .int 0]) hF hB rfl in_X3 tyX3 tyX3_ok tw_1_199 tw_1_200 tw_1_12 (fun j hj => by match j, hj with | 0, _ => rfl | 1, _ => rfl | 2, _ => rfl | 3, _ => rfl | 4, _ => rfl | 5, _ => rfl | 6, _ => rfl | 7, _ => rfl | 8, _ => rfl | 9, _ => rfl | 10, _ => rfl | 11, _ => rfl | 12, _ => rfl | 13, _ => rfl | n + 14, h => exact absurd h (by omega)) (by show _ ≤ kc ((cbegin u.2.1 (nI j_4)).2) - kc u.2.1; omega) (by show _ ≤ ks ((cbegin u.2.1 (nI j_4)).2) - ks u.2.1; omega) dX4_begin_34 (fun qm H hB => ?_)
      refine lv_dup hx hb dX4_begin_37 rfl ?_
      refine lv_iload_n hx hb dX4_begin_38 rfl (lv_at hl 0 rfl) ?_
      refine lv_aload_n hx hb dX4_begin_39 rfl (lv_at hl 1 rfl) ?_
      refine w_cv (r_IN (As := [.int (nI (gN u.2.1 3 (1) 0)), .ref (sA u 5 (j_4))]) (rest := [.ref (qm), .ref (sA u 2 (1))]) hF hB (c_X3_init l env s0 X u (qm) (gN u.2.1 3 (1) 0) (sA u 5 (j_4)) (j_4) (⟨(hI.k5 (by omega)), rfl⟩) (SX.fr hZ) hdf (hI.k6 (by omega)) (fun q hq => Nat.ne_of_lt (hI.ms hq).2.2)) ci_X3_init tw_1_201 ⟨rfl, rfl, Nat.le_of_ble_eq_true rfl, Nat.le_of_ble_eq_true rfl⟩ rfl hl.1 rfl (lv_room (Nat.le_of_ble_eq_true rfl)) dX4_begin_40 ⟨(by show _ ≤ kc ((cbegin u.2.1 (nI j_4)).2) - kc u.2.1; first | omega | (dsimp only [wC]; omega)), (by show _ ≤ ks ((cbegin u.2.1 (nI j_4)).2) - ks u.2.1; first | omega | (dsimp only [wC]; omega))⟩) hB (fun u_13 H locs hq_12 hB => ?_)
      obtain ⟨q9, q10, q11, q12, q13, rfl⟩ := hq_12
      obtain ⟨hP, hO, hOb, hKm, hsq⟩ := SZ.mkXa (a := qm) (b9 := q9) (b10 := q10) (b11 := q11) (b12 := q12) (b13 := q13) (w := j_4) hZ
      obtain ⟨p3, p2, pd1, pd0, ple, pcp⟩ := hP.add (i := 1) (by decide)
      refine w_ci (r_V (As := [.ref (qm)]) (rest := []) hF hB (c_Jx4a65c_add_9ea2d l env s0 X (mkX u qm q9 q10 q11 q12 q13 (gN u.2.1 3 1 0) j_4) (sA u 2 (1)) (1) ((hKm.at (by decide) ⟨(hI.k2 (by decide)), rfl⟩)) (qm) (hOb) p3 p2 pd1 pd0 (by rw [hsq]; omega) ple pcp hO 320 (by rw [hsq]; omega)) cv_Jx4a65c_add_9ea2d tw_1_141 ⟨rfl, rfl, Nat.le_of_ble_eq_true rfl, Nat.le_of_ble_eq_true rfl⟩ (hB.recv (hKm.at (by decide) ⟨(hI.k2 (by decide)), rfl⟩) (cn_2 env (mkX u qm q9 q10 q11 q12 q13 (gN u.2.1 3 1 0) j_4) (1)) rfl) rfl hl.1 rfl (lv_room (by decide)) dX4_begin_43 ⟨(by show _ ≤ kc ((cbegin u.2.1 (nI j_4)).2) - kc u.2.1; first | omega | (dsimp only [wC]; omega)), (by show _ ≤ ks ((cbegin u.2.1 (nI j_4)).2) - ks u.2.1; first | omega | (dsimp only [wC]; omega))⟩) hB (fun r_14 u_16 H locs hq_15 hB => ?_)
      obtain ⟨rfl, q', rfl⟩ := hq_15
      obtain ⟨ph, he0, hZ1, hK1⟩ := SZ.tx (a := qm) (b9 := q9) (b10 := q10) (b11 := q11) (b12 := q12) (b13 := q13) (w := j_4) hZ (by omega) (by omega)
      rw [he0] at hB
      show W p l e _ s m _ below meth c H locs _ _ _ (F0 m _ ls [.int (nI (1))])
      refine lv_pop hx hb dX4_begin_46 rfl ?_
      refine lv_iload_n hx hb dX4_begin_47 rfl (lv_at hl 0 rfl) ?_
      refine W.widen (k := kc ((cbegin u.2.1 (nI j_4)).2) - kc u.2.1) (n := ks ((cbegin u.2.1 (nI j_4)).2) - ks u.2.1) (by first | omega | (dsimp only [wC]; omega)) (by first | omega | (dsimp only [wC]; omega)) ?_
      exact w_iret (v := nI (gN u.2.1 3 (1) 0)) hF hr hlocks hB ((by rw [hE0]; exact ⟨_, rfl, hZ1, hK1, rfl⟩)) dX4_begin_48
    · refine lv_bipush (v := -3) hx hb dX4_begin_27 (by decide) ?_
      refine W.widen (k := kc ((cbegin u.2.1 (nI j_4)).2) - kc u.2.1) (n := ks ((cbegin u.2.1 (nI j_4)).2) - ks u.2.1) (by first | omega | (dsimp only [wC]; omega)) (by first | omega | (dsimp only [wC]; omega)) ?_
      exact w_iret (v := -3) hF hr hlocks hB ((by rw [show cbegin u.2.1 (nI j_4) = (-3, u.2.1) from by first | (simp [cbegin, hj_5, c_10]; done) | (simp [cbegin, hj_5, c_10]; intro h; omega)]; exact ⟨u.1, rfl, hZ, Kp.rf u, rfl⟩)) dX4_begin_29
set_option maxHeartbeats 4000000 in
set_option maxRecDepth 100000 in
theorem c_X4_sites (l : Launch) (env : Ev) (s0 : Nat) (X : va_W) (u : St) (a0 : Nat) (_xa0 : Nat) (ha0 : At u 0 (0) a0) (v1 : Int32) (v2 : Int32) (hZ : SZ env u) (hNb : Nb u.2.1) : Met l yX4_sites [Cond.code yX4_sites cX4_sites 3 (some .int)] { frames := 1, cells := 0, slots := 0, locals := 20 } (va_Pc [.ref (a0), .int (v1), .int (v2)] (Pr env s0 X u)) (va_Qi (fun r u' => ∃ ph, u' = (ph, (csites u.2.1 v1 v2).2, u.2.2) ∧ SZ env (ph, (csites u.2.1 v1 v2).2, u.2.2) ∧ Kp u (ph, (csites u.2.1 v1 v2).2, u.2.2) ∧ r = (csites u.2.1 v1 v2).1) (Po env s0 X) (fun q => s0 ≤ q)) 0 0 (fun q => s0 ≤ q) := by
  refine Met.ofW (cc := cX4_sites) (maxL := 3) (ret := (some .int)) (by decide) rfl ?_
  intro p e s m args below meth c s₁ B hml hv
  obtain ⟨rfl, hv⟩ := hv
  have hx := B.exec
  have hb := B.bytes
  have hr := B.returns
  have hts : ∀ ww ∈ TT, ww.before #[.ref (a0), .int (v1), .int (v2)] s = true := fun ww hw => hv.2.1 ww hw _
  have hown : s.vm.findClass RX4 = some m.cls := findClass_of_methodNamed B.named
  have hlocks := B.notSynchronized
  have hF : CallFix p m c cX4_sites 3 s #[.ref (a0), .int (v1), .int (v2)] TT RX4 := ⟨hx, hb, hml, hown, hts⟩
  have hB := Bd.entry hv
  have hl := lv_entry ([.ref (a0), .int (v1), .int (v2)]) (n := 3) (Nat.le_of_ble_eq_true rfl)
  rw [lg_entry_eq]
  generalize (lg_sl ([.ref (a0), .int (v1), .int (v2)]) ++ List.replicate (3 - (lg_sl ([.ref (a0), .int (v1), .int (v2)])).length) Slot.unset).toArray = ls at hl ⊢
  have hl : lv_has ls 3 [(0, .ref (a0)), (1, .int (v1)), (2, .int (v2))] := hl
  have hI := hZ.1
  have hn4 := hI.nst
  have hn1 := hI.nth
  have hn2 := hI.ntx
  refine lv_iload_n hx hb dX4_sites_0 rfl (lv_at hl 1 rfl) ?_
  refine lv_iconst (v := nI 2) hx hb dX4_sites_1 (by decide) ?_
  refine lv_icmp_lt (tgt := 21) hx hb dX4_sites_2 (by decide) (fun c_1 => ?_) (fun c_1 => ?_)
  · refine lv_iconst (v := -1) hx hb dX4_sites_21 (by decide) ?_
    exact w_iret (v := -1) hF hr hlocks hB ((by rw [show csites u.2.1 v1 v2 = (-1, u.2.1) from cs_1 c_1]; exact ⟨u.1, rfl, hZ, Kp.rf u, rfl⟩)) dX4_sites_22
  · refine lv_iload_n hx hb dX4_sites_5 rfl (lv_at hl 1 rfl) ?_
    refine lv_iconst (v := nI 4) hx hb dX4_sites_6 (by decide) ?_
    refine lv_icmp_gt (tgt := 21) hx hb dX4_sites_7 (by decide) (fun c_2 => ?_) (fun c_2 => ?_)
    · refine lv_iconst (v := -1) hx hb dX4_sites_21 (by decide) ?_
      exact w_iret (v := -1) hF hr hlocks hB ((by rw [show csites u.2.1 v1 v2 = (-1, u.2.1) from cs_2 c_2]; exact ⟨u.1, rfl, hZ, Kp.rf u, rfl⟩)) dX4_sites_22
    · obtain ⟨a, ha5, ha2, rfl⟩ := inr_24 c_1 c_2
      refine lv_iload_n hx hb dX4_sites_10 rfl (lv_at hl 2 rfl) ?_
      refine lv_if_lt (tgt := 21) hx hb dX4_sites_11 (by decide) (fun c_3 => ?_) (fun c_3 => ?_)
      · refine lv_iconst (v := -1) hx hb dX4_sites_21 (by decide) ?_
        exact w_iret (v := -1) hF hr hlocks hB ((by rw [show csites u.2.1 (nI a) v2 = (-1, u.2.1) from cs_3 c_3]; exact ⟨u.1, rfl, hZ, Kp.rf u, rfl⟩)) dX4_sites_22
      · refine lv_iload_n hx hb dX4_sites_14 rfl (lv_at hl 2 rfl) ?_
        refine lv_iload_n hx hb dX4_sites_15 rfl (lv_at hl 1 rfl) ?_
        refine lv_iconst (v := nI 1) hx hb dX4_sites_16 (by decide) ?_
        refine lv_isub hx hb dX4_sites_17 ?_
        refine lv_icmp_le (tgt := 23) hx hb dX4_sites_18 (by decide) (fun c_4 => ?_) (fun c_4 => ?_)
        · obtain ⟨b, hb5, rfl⟩ := in_b ha2 ha5 c_3 c_4
          refine lv_aload_n hx hb dX4_sites_23 rfl (lv_at hl 0 rfl) ?_
          refine w_get (v := .ref (sA u 2 (0))) (fk := 3) hF hB ha0 (cn_0 env u (0)) rfl in_X4 (by decide) tw_1_84 rfl rfl dX4_sites_24 ?_
          refine w_ci (r_V (As := []) (rest := []) hF hB (c_Jx4a65c_isEmpty_aae02 l env s0 X u (sA u 2 (0)) (0) (⟨(hI.k2 (by decide)), rfl⟩) hNb) cv_Jx4a65c_isEmpty_aae02 tw_1_104 ⟨rfl, rfl, by decide, by decide⟩ (hB.recv ⟨(hI.k2 (by decide)), rfl⟩ (cn_2 env u (0)) rfl) rfl hl.1 rfl (lv_room (by decide)) dX4_sites_27 ⟨Nat.le_of_ble_eq_true rfl, Nat.le_of_ble_eq_true rfl⟩) hB (fun r_5 u_7 H locs hq_6 hB => ?_)
          obtain ⟨rfl, rfl⟩ := hq_6
          refine w_ifeq_b (tgt := 43) hx hb dX4_sites_30 (by decide) (fun c_8 => ?_) (fun c_8 => ?_)
          · refine lv_bipush (v := -2) hx hb dX4_sites_43 (by decide) ?_
            exact w_iret (v := -2) hF hr hlocks hB ((by rw [cs_5 ha2 ha5 hb5, if_pos (by simp at c_8; omega)]; exact ⟨u.1, rfl, hZ, Kp.rf u, rfl⟩)) dX4_sites_45
          · refine lv_aload_n hx hb dX4_sites_33 rfl (lv_at hl 0 rfl) ?_
            refine w_get (v := .ref (sA u 2 (1))) (fk := 4) hF hB ha0 (cn_0 env u (0)) rfl in_X4 (by decide) tw_1_85 rfl rfl dX4_sites_34 ?_
            refine w_ci (r_V (As := []) (rest := []) hF hB (c_Jx4a65c_isEmpty_aae02 l env s0 X u (sA u 2 (1)) (1) (⟨(hI.k2 (by decide)), rfl⟩) hNb) cv_Jx4a65c_isEmpty_aae02 tw_1_104 ⟨rfl, rfl, by decide, by decide⟩ (hB.recv ⟨(hI.k2 (by decide)), rfl⟩ (cn_2 env u (1)) rfl) rfl hl.1 rfl (lv_room (by decide)) dX4_sites_37 ⟨Nat.le_of_ble_eq_true rfl, Nat.le_of_ble_eq_true rfl⟩) hB (fun r_9 u_11 H locs hq_10 hB => ?_)
            obtain ⟨rfl, rfl⟩ := hq_10
            refine w_ifne_b (tgt := 46) hx hb dX4_sites_40 (by decide) (fun c_12 => ?_) (fun c_12 => ?_)
            · refine lv_aload_n hx hb dX4_sites_46 rfl (lv_at hl 0 rfl) ?_
              refine lv_iload_n hx hb dX4_sites_47 rfl (lv_at hl 1 rfl) ?_
              refine w_put (fk := 1) (v := .int (nI (a))) (ty := .int) hF hB ha0 (wC u (uN u.2.1 0 (0) (0) (a))) (cn_0 env u (0)) rfl in_X4 tyX4 tyX4_ok nmX4 (by decide) tw_1_82 rfl rfl (by decide +kernel) rfl rfl (Nat.le_of_ble_eq_true rfl) rfl rfl (cu_N0 env u (0) (a)) dX4_sites_48 (fun H locs hB => ?_)
              refine lv_aload_n hx hb dX4_sites_51 rfl (lv_at hl 0 rfl) ?_
              refine lv_iload_n hx hb dX4_sites_52 rfl (lv_at hl 2 rfl) ?_
              refine w_put (fk := 2) (v := .int (nI (b))) (ty := .int) hF hB ha0 (wC u (uN (uN u.2.1 0 (0) (0) (a)) 1 (0) (0) (b))) (cn_0 env (wC u (uN u.2.1 0 (0) (0) (a))) (0)) rfl in_X4 tyX4 tyX4_ok nmX4 (by decide) tw_1_83 rfl rfl (by decide +kernel) rfl rfl (Nat.le_of_ble_eq_true rfl) rfl rfl (cu_N1 env (wC u (uN u.2.1 0 (0) (0) (a))) (0) (b)) dX4_sites_53 (fun H locs hB => ?_)
              refine lv_iconst (v := nI 1) hx hb dX4_sites_56 (by decide) ?_
              exact w_iret (v := nI 1) hF hr hlocks hB ((by rw [cs_5 ha2 ha5 hb5, if_neg (by simp at c_12 c_8; omega)]; exact ⟨u.1, rfl, SZ.n0 hZ (by omega), Kp.w u _ _, rfl⟩)) dX4_sites_57
            · refine lv_bipush (v := -2) hx hb dX4_sites_43 (by decide) ?_
              exact w_iret (v := -2) hF hr hlocks hB ((by rw [cs_5 ha2 ha5 hb5, if_pos (by simp at c_12; omega)]; exact ⟨u.1, rfl, hZ, Kp.rf u, rfl⟩)) dX4_sites_45
        · refine lv_iconst (v := -1) hx hb dX4_sites_21 (by decide) ?_
          exact w_iret (v := -1) hF hr hlocks hB ((by rw [show csites u.2.1 (nI a) v2 = (-1, u.2.1) from cs_4 ha2 ha5 c_4]; exact ⟨u.1, rfl, hZ, Kp.rf u, rfl⟩)) dX4_sites_22

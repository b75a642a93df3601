theorem lgc_eq {x y : Int64} (h : x = y) : lg_cmp x y = 0 := by
  subst h
  have h1 : ¬ lg_cmp x x < 0 := fun z => Int64.lt_irrefl (lgc_lt.mp z)
  have h2 : ¬ 0 < lg_cmp x x := fun z => Int64.lt_irrefl (lgc_gt.mp z)
  exact Int32.le_antisymm (Int32.not_lt.mp h2) (Int32.not_lt.mp h1)
theorem wr_N (c : Lg) (v1 v2 : Int32) (x : Int64) {f : Nat} (hf : f ≠ 15) : gN (cwrite c v1 v2 x).2 f = gN c f := by
  unfold cwrite
  rcases ix v1 (gN c 3 1 0) with _ | t
  · rfl
  rcases ix v2 (gN c 3 0 0) with _ | k
  · rfl
  by_cases z1 : gB c 4 k 0 = true
  · simp only [if_pos z1]
  by_cases z : gN c 16 t 0 = 0
  · simp only [if_neg z1, if_pos z]; exact cP1_f c t k hf
  · simp only [if_neg z1, if_neg z]
theorem ad_N (c : Lg) (v1 v2 v3 x : Int32) : gN (cadd c v1 v2 v3 x).2 = gN c := by
  unfold cadd
  rcases ix v1 (gN c 3 1 0) with _ | t
  · rfl
  rcases ix v2 (gN c 3 0 0) with _ | k
  · rfl
  by_cases z1 : gB c 4 k 0 = true
  · simp only [if_pos z1]
    rcases ix v3 8 with _ | e
    · rfl
    by_cases z : gN c 16 t 0 = 0
    · simp only [if_pos z]; rfl
    · simp only [if_neg z]
  · simp only [if_neg z1]
theorem ab_N (c : Lg) (v : Int32) {f : Nat} (hf : f ≠ 16) : gN (cabort c v).2 f = gN c f := by
  unfold cabort
  rcases ix v (gN c 3 1 0) with _ | t
  · rfl
  by_cases z : gN c 16 t 0 = 0
  · simp only [if_pos z]; exact gN_f _ _ _ _ _ hf
  · simp only [if_neg z]
set_option maxHeartbeats 4000000 in
set_option maxRecDepth 100000 in
theorem lw_c0 {p : Program} {l : Launch} {e : Env} {s : State} {m : MethodId} {below : List Frame} {meth : Method} {c : Code} {b L qx qm i cells slots : Nat} {xs : Nat → Int32} {env : Ev} {H : Heap} {locs : List Loc} {ls : Array Slot} {u : St} {Q : State → Prop} (C0 : lw_At p s m meth c b L xs) (hL : L ≤ 2560) (hi : 5 * i + 5 ≤ L) (hP : LI env s b qx qm i H locs ls u cells slots) (kk : ∀ H locs ls u cells slots, LI env s b qx qm i H locs ls u cells slots → W p l e room_1 s m #[Value.ref b] below meth c H locs cells slots Q (F0 m 845 ls [])) : W p l e room_1 s m #[Value.ref b] below meth c H locs cells slots Q (F0 m 132 ls []) := by
  obtain ⟨hx, hb, hr, hml, hown, hts0, hX, hbl, hlocks, hgv⟩ := C0
  obtain ⟨hB, hZ, hM, hAx, hAm, hS, ⟨rfl, rfl⟩, hl⟩ := hP
  have hts : ∀ ww ∈ TT, ww.before #[Value.ref b] s = true := fun ww hw => tb_start hts0 ww hw _
  have hF : CallFix p m c cL_law 4 s #[Value.ref b] TT RL := ⟨hx, hb, hml, hown, hts⟩
  have hrm0 := hS.1.room
  refine lv_aload_n hx hb dL_law_132 rfl (lv_at hl 1 rfl) ?_
  refine lv_aload_n hx hb dL_law_133 rfl (lv_at hl 0 rfl) ?_
  refine lv_iload_n hx hb dL_law_134 rfl (lv_at hl 3 rfl) ?_
  refine lv_iconst (v := nI 1) hx hb dL_law_135 (by decide) ?_
  refine w_iadd_n hx hb dL_law_136 ?_
  refine w_scr hx hb hX hbl hB hL (by omega) dL_law_137 ?_
  refine lv_aload_n hx hb dL_law_138 rfl (lv_at hl 0 rfl) ?_
  refine lv_iload_n hx hb dL_law_139 rfl (lv_at hl 3 rfl) ?_
  refine lv_iconst (v := nI 2) hx hb dL_law_140 (by decide) ?_
  refine w_iadd_n hx hb dL_law_141 ?_
  refine w_scr hx hb hX hbl hB hL (by omega) dL_law_142 ?_
  have hSS := hS.sites (xs ((5 * i) + 1)) (xs ((5 * i) + 2))
  replace hkk : kc u.2.1 ≤ kc (csites u.2.1 (xs ((5 * i) + 1)) (xs ((5 * i) + 2))).2 ∧ ks u.2.1 ≤ ks (csites u.2.1 (xs ((5 * i) + 1)) (xs ((5 * i) + 2))).2 := ⟨Nat.le_of_eq (kc_sites u.2.1 (xs ((5 * i) + 1)) (xs ((5 * i) + 2))).1.symm, Nat.le_of_eq (kc_sites u.2.1 (xs ((5 * i) + 1)) (xs ((5 * i) + 2))).2.symm⟩
  have hrm := hSS.2.1.room
  refine w_ci (r_V (As := [.int (xs ((5 * i) + 1)), .int (xs ((5 * i) + 2))]) (rest := []) hF hB (c_X4_sites l env s.heap.size [] u (qx) (0) hAx (xs ((5 * i) + 1)) (xs ((5 * i) + 2)) hZ hS.2.2.1) cv_X4_sites tw_1_100 ⟨rfl, rfl, Nat.le_of_ble_eq_true rfl, Nat.le_of_ble_eq_true rfl⟩ (hB.recv hAx (cn_0 env u 0) rfl) rfl hl.1 rfl (lv_room (Nat.le_of_ble_eq_true rfl)) dL_law_143 ⟨(by show _ ≤ 600000; first | omega | (dsimp only; omega)), (by show _ ≤ 7302249; first | omega | (dsimp only; omega))⟩) hB (fun r ux H locs hq hB => ?_)
  obtain ⟨ph, rfl, hZ1, hK1, rfl⟩ := hq
  obtain ⟨u1, hu1⟩ : ∃ z : St, z = (ph, (csites u.2.1 (xs ((5 * i) + 1)) (xs ((5 * i) + 2))).2, u.2.2) := ⟨_, rfl⟩
  rw [← hu1] at hB hZ1 hK1
  have e1 : u1.2.1 = (csites u.2.1 (xs ((5 * i) + 1)) (xs ((5 * i) + 2))).2 := by rw [hu1]
  have e2 : u1.2.2 = u.2.2 := by rw [hu1]
  have hM1 : MI u1 := hM.kp hK1
  have hAx1 : At u1 0 0 qx := hK1.at (by decide) hAx
  have hAm1 : At u1 20 0 qm := hK1.at (by decide) hAm
  show W p l e _ s m _ below meth c H locs _ _ _ (F0 m _ ls [.int ((csites u.2.1 (xs ((5 * i) + 1)) (xs ((5 * i) + 2))).1)])
  refine lv_aload_n hx hb dL_law_146 rfl (lv_at hl 2 rfl) ?_
  refine lv_aload_n hx hb dL_law_147 rfl (lv_at hl 0 rfl) ?_
  refine lv_iload_n hx hb dL_law_148 rfl (lv_at hl 3 rfl) ?_
  refine lv_iconst (v := nI 1) hx hb dL_law_149 (by decide) ?_
  refine w_iadd_n hx hb dL_law_150 ?_
  refine w_scr hx hb hX hbl hB hL (by omega) dL_law_151 ?_
  refine lv_aload_n hx hb dL_law_152 rfl (lv_at hl 0 rfl) ?_
  refine lv_iload_n hx hb dL_law_153 rfl (lv_at hl 3 rfl) ?_
  refine lv_iconst (v := nI 2) hx hb dL_law_154 (by decide) ?_
  refine w_iadd_n hx hb dL_law_155 ?_
  refine w_scr hx hb hX hbl hB hL (by omega) dL_law_156 ?_
  refine w_ci (r_V (As := [.int (xs ((5 * i) + 1)), .int (xs ((5 * i) + 2))]) (rest := [.int ((csites u.2.1 (xs ((5 * i) + 1)) (xs ((5 * i) + 2))).1)]) hF hB (c_X5_sites l env s.heap.size [] u1 (qm) (0) hAm1 (xs ((5 * i) + 1)) (xs ((5 * i) + 2)) hM1 (by rw [e2]; exact hS.2.2.2.2) (by rw [e2]; exact hS.2.2.2.1)) cv_X5_sites tw_3_177 ⟨rfl, rfl, Nat.le_of_ble_eq_true rfl, Nat.le_of_ble_eq_true rfl⟩ (hB.recv hAm1 (cn_20 env u1 0) rfl) rfl hl.1 rfl (lv_room (Nat.le_of_ble_eq_true rfl)) dL_law_157 ⟨(by show _ ≤ 600000; first | omega | (dsimp only; omega)), (by show _ ≤ 7302249; first | omega | (dsimp only; omega))⟩) hB (fun r ux H locs hq hB => ?_)
  obtain ⟨rfl, rfl⟩ := hq
  show W p l e _ s m _ below meth c H locs _ _ _ (F0 m _ ls [.int ((msites u1.2.2 (xs ((5 * i) + 1)) (xs ((5 * i) + 2))).1), .int ((csites u.2.1 (xs ((5 * i) + 1)) (xs ((5 * i) + 2))).1)])
  refine lv_icmp_eq (tgt := 845) hx hb dL_law_160 (by decide) (fun _ => ?_) (fun hne => absurd (by rw [e2]; exact hSS.1) hne)
  refine W.widen (k := 100 + kc (wM u1 (msites u1.2.2 (xs ((5 * i) + 1)) (xs ((5 * i) + 2))).2).2.1) (n := 60000 + ks (wM u1 (msites u1.2.2 (xs ((5 * i) + 1)) (xs ((5 * i) + 2))).2).2.1) (by show _ ≤ 100 + kc u1.2.1; rw [e1]; first | omega | (dsimp only; omega) | omega) (by show _ ≤ 60000 + ks u1.2.1; rw [e1]; first | omega | (dsimp only; omega) | omega) ?_
  exact kk H locs ls (wM u1 (msites u1.2.2 (xs ((5 * i) + 1)) (xs ((5 * i) + 2))).2) _ _ ⟨hB, SZ.m (ph := u1.1) (c := u1.2.1) (m := u1.2.2) hZ1, hM1, hAx1, hAm1, (by show SS u1.2.1 _; rw [e1, e2]; exact hSS.2), ⟨rfl, rfl⟩, hl⟩
set_option maxHeartbeats 4000000 in
set_option maxRecDepth 100000 in
theorem lw_c1 {p : Program} {l : Launch} {e : Env} {s : State} {m : MethodId} {below : List Frame} {meth : Method} {c : Code} {b L qx qm i cells slots : Nat} {xs : Nat → Int32} {env : Ev} {H : Heap} {locs : List Loc} {ls : Array Slot} {u : St} {Q : State → Prop} (C0 : lw_At p s m meth c b L xs) (hL : L ≤ 2560) (hi : 5 * i + 5 ≤ L) (hP : LI env s b qx qm i H locs ls u cells slots) (kk : ∀ H locs ls u cells slots, LI env s b qx qm i H locs ls u cells slots → W p l e room_1 s m #[Value.ref b] below meth c H locs cells slots Q (F0 m 845 ls [])) : W p l e room_1 s m #[Value.ref b] below meth c H locs cells slots Q (F0 m 165 ls []) := by
  obtain ⟨hx, hb, hr, hml, hown, hts0, hX, hbl, hlocks, hgv⟩ := C0
  obtain ⟨hB, hZ, hM, hAx, hAm, hS, ⟨rfl, rfl⟩, hl⟩ := hP
  have hts : ∀ ww ∈ TT, ww.before #[Value.ref b] s = true := fun ww hw => tb_start hts0 ww hw _
  have hF : CallFix p m c cL_law 4 s #[Value.ref b] TT RL := ⟨hx, hb, hml, hown, hts⟩
  have hrm0 := hS.1.room
  refine lv_aload_n hx hb dL_law_165 rfl (lv_at hl 1 rfl) ?_
  refine lv_aload_n hx hb dL_law_166 rfl (lv_at hl 0 rfl) ?_
  refine lv_iload_n hx hb dL_law_167 rfl (lv_at hl 3 rfl) ?_
  refine lv_iconst (v := nI 1) hx hb dL_law_168 (by decide) ?_
  refine w_iadd_n hx hb dL_law_169 ?_
  refine w_scr hx hb hX hbl hB hL (by omega) dL_law_170 ?_
  refine lv_aload_n hx hb dL_law_171 rfl (lv_at hl 0 rfl) ?_
  refine lv_iload_n hx hb dL_law_172 rfl (lv_at hl 3 rfl) ?_
  refine lv_iconst (v := nI 2) hx hb dL_law_173 (by decide) ?_
  refine w_iadd_n hx hb dL_law_174 ?_
  refine w_scr hx hb hX hbl hB hL (by omega) dL_law_175 ?_
  refine lv_if_eq (tgt := 183) hx hb dL_law_176 (by decide) (fun c_1 => ?_) (fun c_1 => ?_)
  · refine lv_iconst (v := nI 0) hx hb dL_law_183 (by decide) ?_
    have hSS := hS.thing (xs ((5 * i) + 1)) (false)
    replace hkk : kc u.2.1 ≤ kc (cthing u.2.1 (xs ((5 * i) + 1)) (false)).2 ∧ ks u.2.1 ≤ ks (cthing u.2.1 (xs ((5 * i) + 1)) (false)).2 := kc_thing u.2.1 (xs ((5 * i) + 1)) (false)
    have hrm := hSS.2.1.room
    refine w_ci (r_V (As := [.int (xs ((5 * i) + 1)), .int (nI (0))]) (rest := []) hF hB (c_X4_thing l env s.heap.size [] u (qx) (0) hAx (xs ((5 * i) + 1)) (false) hZ hS.2.2.1) cv_X4_thing tw_1_108 ⟨rfl, rfl, Nat.le_of_ble_eq_true rfl, Nat.le_of_ble_eq_true rfl⟩ (hB.recv hAx (cn_0 env u 0) rfl) rfl hl.1 rfl (lv_room (Nat.le_of_ble_eq_true rfl)) dL_law_184 ⟨(by show _ ≤ 600000; first | omega | (dsimp only; omega)), (by show _ ≤ 7302249; first | omega | (dsimp only; omega))⟩) hB (fun r ux H locs hq hB => ?_)
    obtain ⟨ph, rfl, hZ1, hK1, rfl⟩ := hq
    obtain ⟨u1, hu1⟩ : ∃ z : St, z = (ph, (cthing u.2.1 (xs ((5 * i) + 1)) (false)).2, u.2.2) := ⟨_, rfl⟩
    rw [← hu1] at hB hZ1 hK1
    have e1 : u1.2.1 = (cthing u.2.1 (xs ((5 * i) + 1)) (false)).2 := by rw [hu1]
    have e2 : u1.2.2 = u.2.2 := by rw [hu1]
    have hM1 : MI u1 := hM.kp hK1
    have hAx1 : At u1 0 0 qx := hK1.at (by decide) hAx
    have hAm1 : At u1 20 0 qm := hK1.at (by decide) hAm
    show W p l e _ s m _ below meth c H locs _ _ _ (F0 m _ ls [.int ((cthing u.2.1 (xs ((5 * i) + 1)) (false)).1)])
    refine lv_aload_n hx hb dL_law_187 rfl (lv_at hl 2 rfl) ?_
    refine lv_aload_n hx hb dL_law_188 rfl (lv_at hl 0 rfl) ?_
    refine lv_iload_n hx hb dL_law_189 rfl (lv_at hl 3 rfl) ?_
    refine lv_iconst (v := nI 1) hx hb dL_law_190 (by decide) ?_
    refine w_iadd_n hx hb dL_law_191 ?_
    refine w_scr hx hb hX hbl hB hL (by omega) dL_law_192 ?_
    refine lv_aload_n hx hb dL_law_193 rfl (lv_at hl 0 rfl) ?_
    refine lv_iload_n hx hb dL_law_194 rfl (lv_at hl 3 rfl) ?_
    refine lv_iconst (v := nI 2) hx hb dL_law_195 (by decide) ?_
    refine w_iadd_n hx hb dL_law_196 ?_
    refine w_scr hx hb hX hbl hB hL (by omega) dL_law_197 ?_
    refine lv_if_eq (tgt := 205) hx hb dL_law_198 (by decide) (fun _ => ?_) (fun hne => absurd c_1 hne)
    refine lv_iconst (v := nI 0) hx hb dL_law_205 (by decide) ?_
    refine w_ci (r_V (As := [.int (xs ((5 * i) + 1)), .int (nI (0))]) (rest := [.int ((cthing u.2.1 (xs ((5 * i) + 1)) (false)).1)]) hF hB (c_X5_thing l env s.heap.size [] u1 (qm) (0) hAm1 (xs ((5 * i) + 1)) (false) hM1 (by rw [e2]; exact hS.2.2.2.2) (by rw [e2]; exact hS.2.2.2.1)) cv_X5_thing tw_3_186 ⟨rfl, rfl, Nat.le_of_ble_eq_true rfl, Nat.le_of_ble_eq_true rfl⟩ (hB.recv hAm1 (cn_20 env u1 0) rfl) rfl hl.1 rfl (lv_room (Nat.le_of_ble_eq_true rfl)) dL_law_206 ⟨(by show _ ≤ 600000; first | omega | (dsimp only; omega)), (by show _ ≤ 7302249; first | omega | (dsimp only; omega))⟩) hB (fun r ux H locs hq hB => ?_)
    obtain ⟨rfl, rfl⟩ := hq
    show W p l e _ s m _ below meth c H locs _ _ _ (F0 m _ ls [.int ((mthing u1.2.2 (xs ((5 * i) + 1)) (false)).1), .int ((cthing u.2.1 (xs ((5 * i) + 1)) (false)).1)])
    refine lv_icmp_eq (tgt := 845) hx hb dL_law_209 (by decide) (fun _ => ?_) (fun hne => absurd (by rw [e2]; exact hSS.1) hne)
    refine W.widen (k := 100 + kc (wM u1 (mthing u1.2.2 (xs ((5 * i) + 1)) (false)).2).2.1) (n := 60000 + ks (wM u1 (mthing u1.2.2 (xs ((5 * i) + 1)) (false)).2).2.1) (by show _ ≤ 100 + kc u1.2.1; rw [e1]; first | omega | (dsimp only; omega) | omega) (by show _ ≤ 60000 + ks u1.2.1; rw [e1]; first | omega | (dsimp only; omega) | omega) ?_
    exact kk H locs ls (wM u1 (mthing u1.2.2 (xs ((5 * i) + 1)) (false)).2) _ _ ⟨hB, SZ.m (ph := u1.1) (c := u1.2.1) (m := u1.2.2) hZ1, hM1, hAx1, hAm1, (by show SS u1.2.1 _; rw [e1, e2]; exact hSS.2), ⟨rfl, rfl⟩, hl⟩
  · refine lv_iconst (v := nI 1) hx hb dL_law_179 (by decide) ?_
    refine lv_goto (tgt := 184) hx hb dL_law_180 (by decide) ?_
    have hSS := hS.thing (xs ((5 * i) + 1)) (true)
    replace hkk : kc u.2.1 ≤ kc (cthing u.2.1 (xs ((5 * i) + 1)) (true)).2 ∧ ks u.2.1 ≤ ks (cthing u.2.1 (xs ((5 * i) + 1)) (true)).2 := kc_thing u.2.1 (xs ((5 * i) + 1)) (true)
    have hrm := hSS.2.1.room
    refine w_ci (r_V (As := [.int (xs ((5 * i) + 1)), .int (nI (1))]) (rest := []) hF hB (c_X4_thing l env s.heap.size [] u (qx) (0) hAx (xs ((5 * i) + 1)) (true) hZ hS.2.2.1) cv_X4_thing tw_1_108 ⟨rfl, rfl, Nat.le_of_ble_eq_true rfl, Nat.le_of_ble_eq_true rfl⟩ (hB.recv hAx (cn_0 env u 0) rfl) rfl hl.1 rfl (lv_room (Nat.le_of_ble_eq_true rfl)) dL_law_184 ⟨(by show _ ≤ 600000; first | omega | (dsimp only; omega)), (by show _ ≤ 7302249; first | omega | (dsimp only; omega))⟩) hB (fun r ux H locs hq hB => ?_)
    obtain ⟨ph, rfl, hZ1, hK1, rfl⟩ := hq
    obtain ⟨u1, hu1⟩ : ∃ z : St, z = (ph, (cthing u.2.1 (xs ((5 * i) + 1)) (true)).2, u.2.2) := ⟨_, rfl⟩
    rw [← hu1] at hB hZ1 hK1
    have e1 : u1.2.1 = (cthing u.2.1 (xs ((5 * i) + 1)) (true)).2 := by rw [hu1]
    have e2 : u1.2.2 = u.2.2 := by rw [hu1]
    have hM1 : MI u1 := hM.kp hK1
    have hAx1 : At u1 0 0 qx := hK1.at (by decide) hAx
    have hAm1 : At u1 20 0 qm := hK1.at (by decide) hAm
    show W p l e _ s m _ below meth c H locs _ _ _ (F0 m _ ls [.int ((cthing u.2.1 (xs ((5 * i) + 1)) (true)).1)])
    refine lv_aload_n hx hb dL_law_187 rfl (lv_at hl 2 rfl) ?_
    refine lv_aload_n hx hb dL_law_188 rfl (lv_at hl 0 rfl) ?_
    refine lv_iload_n hx hb dL_law_189 rfl (lv_at hl 3 rfl) ?_
    refine lv_iconst (v := nI 1) hx hb dL_law_190 (by decide) ?_
    refine w_iadd_n hx hb dL_law_191 ?_
    refine w_scr hx hb hX hbl hB hL (by omega) dL_law_192 ?_
    refine lv_aload_n hx hb dL_law_193 rfl (lv_at hl 0 rfl) ?_
    refine lv_iload_n hx hb dL_law_194 rfl (lv_at hl 3 rfl) ?_
    refine lv_iconst (v := nI 2) hx hb dL_law_195 (by decide) ?_
    refine w_iadd_n hx hb dL_law_196 ?_
    refine w_scr hx hb hX hbl hB hL (by omega) dL_law_197 ?_
    refine lv_if_eq (tgt := 205) hx hb dL_law_198 (by decide) (fun he => absurd he c_1) (fun _ => ?_)
    refine lv_iconst (v := nI 1) hx hb dL_law_201 (by decide) ?_
    refine lv_goto (tgt := 206) hx hb dL_law_202 (by decide) ?_
    refine w_ci (r_V (As := [.int (xs ((5 * i) + 1)), .int (nI (1))]) (rest := [.int ((cthing u.2.1 (xs ((5 * i) + 1)) (true)).1)]) hF hB (c_X5_thing l env s.heap.size [] u1 (qm) (0) hAm1 (xs ((5 * i) + 1)) (true) hM1 (by rw [e2]; exact hS.2.2.2.2) (by rw [e2]; exact hS.2.2.2.1)) cv_X5_thing tw_3_186 ⟨rfl, rfl, Nat.le_of_ble_eq_true rfl, Nat.le_of_ble_eq_true rfl⟩ (hB.recv hAm1 (cn_20 env u1 0) rfl) rfl hl.1 rfl (lv_room (Nat.le_of_ble_eq_true rfl)) dL_law_206 ⟨(by show _ ≤ 600000; first | omega | (dsimp only; omega)), (by show _ ≤ 7302249; first | omega | (dsimp only; omega))⟩) hB (fun r ux H locs hq hB => ?_)
    obtain ⟨rfl, rfl⟩ := hq
    show W p l e _ s m _ below meth c H locs _ _ _ (F0 m _ ls [.int ((mthing u1.2.2 (xs ((5 * i) + 1)) (true)).1), .int ((cthing u.2.1 (xs ((5 * i) + 1)) (true)).1)])
    refine lv_icmp_eq (tgt := 845) hx hb dL_law_209 (by decide) (fun _ => ?_) (fun hne => absurd (by rw [e2]; exact hSS.1) hne)
    refine W.widen (k := 100 + kc (wM u1 (mthing u1.2.2 (xs ((5 * i) + 1)) (true)).2).2.1) (n := 60000 + ks (wM u1 (mthing u1.2.2 (xs ((5 * i) + 1)) (true)).2).2.1) (by show _ ≤ 100 + kc u1.2.1; rw [e1]; first | omega | (dsimp only; omega) | omega) (by show _ ≤ 60000 + ks u1.2.1; rw [e1]; first | omega | (dsimp only; omega) | omega) ?_
    exact kk H locs ls (wM u1 (mthing u1.2.2 (xs ((5 * i) + 1)) (true)).2) _ _ ⟨hB, SZ.m (ph := u1.1) (c := u1.2.1) (m := u1.2.2) hZ1, hM1, hAx1, hAm1, (by show SS u1.2.1 _; rw [e1, e2]; exact hSS.2), ⟨rfl, rfl⟩, hl⟩
set_option maxHeartbeats 4000000 in
set_option maxRecDepth 100000 in
theorem lw_c2 {p : Program} {l : Launch} {e : Env} {s : State} {m : MethodId} {below : List Frame} {meth : Method} {c : Code} {b L qx qm i cells slots : Nat} {xs : Nat → Int32} {env : Ev} {H : Heap} {locs : List Loc} {ls : Array Slot} {u : St} {Q : State → Prop} (C0 : lw_At p s m meth c b L xs) (hL : L ≤ 2560) (hi : 5 * i + 5 ≤ L) (hP : LI env s b qx qm i H locs ls u cells slots) (kk : ∀ H locs ls u cells slots, LI env s b qx qm i H locs ls u cells slots → W p l e room_1 s m #[Value.ref b] below meth c H locs cells slots Q (F0 m 845 ls [])) : W p l e room_1 s m #[Value.ref b] below meth c H locs cells slots Q (F0 m 214 ls []) := by
  obtain ⟨hx, hb, hr, hml, hown, hts0, hX, hbl, hlocks, hgv⟩ := C0
  obtain ⟨hB, hZ, hM, hAx, hAm, hS, ⟨rfl, rfl⟩, hl⟩ := hP
  have hts : ∀ ww ∈ TT, ww.before #[Value.ref b] s = true := fun ww hw => tb_start hts0 ww hw _
  have hF : CallFix p m c cL_law 4 s #[Value.ref b] TT RL := ⟨hx, hb, hml, hown, hts⟩
  have hrm0 := hS.1.room
  refine lv_aload_n hx hb dL_law_214 rfl (lv_at hl 1 rfl) ?_
  refine lv_aload_n hx hb dL_law_215 rfl (lv_at hl 0 rfl) ?_
  refine lv_iload_n hx hb dL_law_216 rfl (lv_at hl 3 rfl) ?_
  refine lv_iconst (v := nI 1) hx hb dL_law_217 (by decide) ?_
  refine w_iadd_n hx hb dL_law_218 ?_
  refine w_scr hx hb hX hbl hB hL (by omega) dL_law_219 ?_
  have hSS := hS.begin (xs ((5 * i) + 1))
  replace hkk : kc u.2.1 ≤ kc (cbegin u.2.1 (xs ((5 * i) + 1))).2 ∧ ks u.2.1 ≤ ks (cbegin u.2.1 (xs ((5 * i) + 1))).2 := kc_begin u.2.1 (xs ((5 * i) + 1))
  have hrm := hSS.2.1.room
  refine w_ci (r_V (As := [.int (xs ((5 * i) + 1))]) (rest := []) hF hB (c_X4_begin l env s.heap.size [] u (qx) (0) hAx (xs ((5 * i) + 1)) hZ hS.2.2.1 (hS.1.2.2.2.1 _ (Nat.le_refl _))) cv_X4_begin tw_1_195 ⟨rfl, rfl, Nat.le_of_ble_eq_true rfl, Nat.le_of_ble_eq_true rfl⟩ (hB.recv hAx (cn_0 env u 0) rfl) rfl hl.1 rfl (lv_room (Nat.le_of_ble_eq_true rfl)) dL_law_220 ⟨(by show _ ≤ 600000; first | omega | (dsimp only; omega)), (by show _ ≤ 7302249; first | omega | (dsimp only; omega))⟩) hB (fun r ux H locs hq hB => ?_)
  obtain ⟨ph, rfl, hZ1, hK1, rfl⟩ := hq
  obtain ⟨u1, hu1⟩ : ∃ z : St, z = (ph, (cbegin u.2.1 (xs ((5 * i) + 1))).2, u.2.2) := ⟨_, rfl⟩
  rw [← hu1] at hB hZ1 hK1
  have e1 : u1.2.1 = (cbegin u.2.1 (xs ((5 * i) + 1))).2 := by rw [hu1]
  have e2 : u1.2.2 = u.2.2 := by rw [hu1]
  have hM1 : MI u1 := hM.kp hK1
  have hAx1 : At u1 0 0 qx := hK1.at (by decide) hAx
  have hAm1 : At u1 20 0 qm := hK1.at (by decide) hAm
  show W p l e _ s m _ below meth c H locs _ _ _ (F0 m _ ls [.int ((cbegin u.2.1 (xs ((5 * i) + 1))).1)])
  refine lv_aload_n hx hb dL_law_223 rfl (lv_at hl 2 rfl) ?_
  refine lv_aload_n hx hb dL_law_224 rfl (lv_at hl 0 rfl) ?_
  refine lv_iload_n hx hb dL_law_225 rfl (lv_at hl 3 rfl) ?_
  refine lv_iconst (v := nI 1) hx hb dL_law_226 (by decide) ?_
  refine w_iadd_n hx hb dL_law_227 ?_
  refine w_scr hx hb hX hbl hB hL (by omega) dL_law_228 ?_
  refine w_ci (r_V (As := [.int (xs ((5 * i) + 1))]) (rest := [.int ((cbegin u.2.1 (xs ((5 * i) + 1))).1)]) hF hB (c_X5_begin l env s.heap.size [] u1 (qm) (0) hAm1 (xs ((5 * i) + 1)) hM1 (by rw [e2]; exact hS.2.2.2.2) (by rw [e2]; exact hS.2.2.2.1)) cv_X5_begin tw_3_194 ⟨rfl, rfl, Nat.le_of_ble_eq_true rfl, Nat.le_of_ble_eq_true rfl⟩ (hB.recv hAm1 (cn_20 env u1 0) rfl) rfl hl.1 rfl (lv_room (Nat.le_of_ble_eq_true rfl)) dL_law_229 ⟨(by show _ ≤ 600000; first | omega | (dsimp only; omega)), (by show _ ≤ 7302249; first | omega | (dsimp only; omega))⟩) hB (fun r ux H locs hq hB => ?_)
  obtain ⟨rfl, rfl⟩ := hq
  show W p l e _ s m _ below meth c H locs _ _ _ (F0 m _ ls [.int ((mbegin u1.2.2 (xs ((5 * i) + 1))).1), .int ((cbegin u.2.1 (xs ((5 * i) + 1))).1)])
  refine lv_icmp_eq (tgt := 845) hx hb dL_law_232 (by decide) (fun _ => ?_) (fun hne => absurd (by rw [e2]; exact hSS.1) hne)
  refine W.widen (k := 100 + kc (wM u1 (mbegin u1.2.2 (xs ((5 * i) + 1))).2).2.1) (n := 60000 + ks (wM u1 (mbegin u1.2.2 (xs ((5 * i) + 1))).2).2.1) (by show _ ≤ 100 + kc u1.2.1; rw [e1]; first | omega | (dsimp only; omega) | omega) (by show _ ≤ 60000 + ks u1.2.1; rw [e1]; first | omega | (dsimp only; omega) | omega) ?_
  exact kk H locs ls (wM u1 (mbegin u1.2.2 (xs ((5 * i) + 1))).2) _ _ ⟨hB, SZ.m (ph := u1.1) (c := u1.2.1) (m := u1.2.2) hZ1, hM1, hAx1, hAm1, (by show SS u1.2.1 _; rw [e1, e2]; exact hSS.2), ⟨rfl, rfl⟩, hl⟩
set_option maxHeartbeats 4000000 in
set_option maxRecDepth 100000 in
theorem lw_c3 {p : Program} {l : Launch} {e : Env} {s : State} {m : MethodId} {below : List Frame} {meth : Method} {c : Code} {b L qx qm i cells slots : Nat} {xs : Nat → Int32} {env : Ev} {H : Heap} {locs : List Loc} {ls : Array Slot} {u : St} {Q : State → Prop} (C0 : lw_At p s m meth c b L xs) (hL : L ≤ 2560) (hi : 5 * i + 5 ≤ L) (hP : LI env s b qx qm i H locs ls u cells slots) (kk : ∀ H locs ls u cells slots, LI env s b qx qm i H locs ls u cells slots → W p l e room_1 s m #[Value.ref b] below meth c H locs cells slots Q (F0 m 845 ls [])) : W p l e room_1 s m #[Value.ref b] below meth c H locs cells slots Q (F0 m 237 ls []) := by
  obtain ⟨hx, hb, hr, hml, hown, hts0, hX, hbl, hlocks, hgv⟩ := C0
  obtain ⟨hB, hZ, hM, hAx, hAm, hS, ⟨rfl, rfl⟩, hl⟩ := hP
  have hts : ∀ ww ∈ TT, ww.before #[Value.ref b] s = true := fun ww hw => tb_start hts0 ww hw _
  have hF : CallFix p m c cL_law 4 s #[Value.ref b] TT RL := ⟨hx, hb, hml, hown, hts⟩
  have hrm0 := hS.1.room
  refine lv_aload_n hx hb dL_law_237 rfl (lv_at hl 1 rfl) ?_
  refine lv_aload_n hx hb dL_law_238 rfl (lv_at hl 0 rfl) ?_
  refine lv_iload_n hx hb dL_law_239 rfl (lv_at hl 3 rfl) ?_
  refine lv_iconst (v := nI 1) hx hb dL_law_240 (by decide) ?_
  refine w_iadd_n hx hb dL_law_241 ?_
  refine w_scr hx hb hX hbl hB hL (by omega) dL_law_242 ?_
  refine lv_aload_n hx hb dL_law_243 rfl (lv_at hl 0 rfl) ?_
  refine lv_iload_n hx hb dL_law_244 rfl (lv_at hl 3 rfl) ?_
  refine lv_iconst (v := nI 2) hx hb dL_law_245 (by decide) ?_
  refine w_iadd_n hx hb dL_law_246 ?_
  refine w_scr hx hb hX hbl hB hL (by omega) dL_law_247 ?_
  have hSS := hS.read (xs ((5 * i) + 1)) (xs ((5 * i) + 2))
  refine w_cl (r_V (As := [.int (xs ((5 * i) + 1)), .int (xs ((5 * i) + 2))]) (rest := []) hF hB (c_X4_read l env s.heap.size [] u (qx) (0) hAx (xs ((5 * i) + 1)) (xs ((5 * i) + 2)) hZ.1 hS.2.2.1) cv_X4_read tw_2_34 ⟨rfl, rfl, Nat.le_of_ble_eq_true rfl, Nat.le_of_ble_eq_true rfl⟩ (hB.recv hAx (cn_0 env u 0) rfl) rfl hl.1 rfl (lv_room (Nat.le_of_ble_eq_true rfl)) dL_law_248 ⟨(by show _ ≤ 600000; first | omega | (dsimp only; omega)), (by show _ ≤ 7302249; first | omega | (dsimp only; omega))⟩) hB (fun r ux H locs hq hB => ?_)
  obtain ⟨rfl, rfl⟩ := hq
  have e1 : u.2.1 = u.2.1 := rfl
  have e2 : u.2.2 = u.2.2 := rfl
  have hM1 := hM
  have hAx1 := hAx
  have hAm1 := hAm
  have hZ1 := hZ
  show W p l e _ s m _ below meth c H locs _ _ _ (F0 m _ ls [.long (cread u.2.1 (xs ((5 * i) + 1)) (xs ((5 * i) + 2)))])
  refine lv_aload_n hx hb dL_law_251 rfl (lv_at hl 2 rfl) ?_
  refine lv_aload_n hx hb dL_law_252 rfl (lv_at hl 0 rfl) ?_
  refine lv_iload_n hx hb dL_law_253 rfl (lv_at hl 3 rfl) ?_
  refine lv_iconst (v := nI 1) hx hb dL_law_254 (by decide) ?_
  refine w_iadd_n hx hb dL_law_255 ?_
  refine w_scr hx hb hX hbl hB hL (by omega) dL_law_256 ?_
  refine lv_aload_n hx hb dL_law_257 rfl (lv_at hl 0 rfl) ?_
  refine lv_iload_n hx hb dL_law_258 rfl (lv_at hl 3 rfl) ?_
  refine lv_iconst (v := nI 2) hx hb dL_law_259 (by decide) ?_
  refine w_iadd_n hx hb dL_law_260 ?_
  refine w_scr hx hb hX hbl hB hL (by omega) dL_law_261 ?_
  refine w_cl (r_V (As := [.int (xs ((5 * i) + 1)), .int (xs ((5 * i) + 2))]) (rest := [.long (cread u.2.1 (xs ((5 * i) + 1)) (xs ((5 * i) + 2)))]) hF hB (c_X5_read l env s.heap.size [] u (qm) (0) hAm1 (xs ((5 * i) + 1)) (xs ((5 * i) + 2)) hM1 (by rw [e2]; exact hS.2.2.2.2) (by rw [e2]; exact hS.2.2.2.1)) cv_X5_read tw_3_198 ⟨rfl, rfl, Nat.le_of_ble_eq_true rfl, Nat.le_of_ble_eq_true rfl⟩ (hB.recv hAm1 (cn_20 env u 0) rfl) rfl hl.1 rfl (lv_room (Nat.le_of_ble_eq_true rfl)) dL_law_262 ⟨(by show _ ≤ 600000; first | omega | (dsimp only; omega)), (by show _ ≤ 7302249; first | omega | (dsimp only; omega))⟩) hB (fun r ux H locs hq hB => ?_)
  obtain ⟨rfl, rfl⟩ := hq
  show W p l e _ s m _ below meth c H locs _ _ _ (F0 m _ ls [.long (mread u.2.2 (xs ((5 * i) + 1)) (xs ((5 * i) + 2))), .long (cread u.2.1 (xs ((5 * i) + 1)) (xs ((5 * i) + 2)))])
  refine W.lcmp hx hb dL_law_265 ?_
  refine lv_if_eq (tgt := 845) hx hb dL_law_266 (by decide) (fun _ => ?_) (fun hne => absurd (lgc_eq hSS) hne)
  refine W.widen (k := 100 + kc u.2.1) (n := 60000 + ks u.2.1) (by show _ ≤ 100 + kc u.2.1; first | omega | (dsimp only; omega) | omega) (by show _ ≤ 60000 + ks u.2.1; first | omega | (dsimp only; omega) | omega) ?_
  exact kk H locs ls u _ _ ⟨hB, hZ, hM, hAx, hAm, hS, ⟨rfl, rfl⟩, hl⟩
set_option maxHeartbeats 4000000 in
set_option maxRecDepth 100000 in
theorem lw_c4 {p : Program} {l : Launch} {e : Env} {s : State} {m : MethodId} {below : List Frame} {meth : Method} {c : Code} {b L qx qm i cells slots : Nat} {xs : Nat → Int32} {env : Ev} {H : Heap} {locs : List Loc} {ls : Array Slot} {u : St} {Q : State → Prop} (C0 : lw_At p s m meth c b L xs) (hL : L ≤ 2560) (hi : 5 * i + 5 ≤ L) (hP : LI env s b qx qm i H locs ls u cells slots) (kk : ∀ H locs ls u cells slots, LI env s b qx qm i H locs ls u cells slots → W p l e room_1 s m #[Value.ref b] below meth c H locs cells slots Q (F0 m 845 ls [])) : W p l e room_1 s m #[Value.ref b] below meth c H locs cells slots Q (F0 m 271 ls []) := by
  obtain ⟨hx, hb, hr, hml, hown, hts0, hX, hbl, hlocks, hgv⟩ := C0
  obtain ⟨hB, hZ, hM, hAx, hAm, hS, ⟨rfl, rfl⟩, hl⟩ := hP
  have hts : ∀ ww ∈ TT, ww.before #[Value.ref b] s = true := fun ww hw => tb_start hts0 ww hw _
  have hF : CallFix p m c cL_law 4 s #[Value.ref b] TT RL := ⟨hx, hb, hml, hown, hts⟩
  have hrm0 := hS.1.room
  refine lv_aload_n hx hb dL_law_271 rfl (lv_at hl 1 rfl) ?_
  refine lv_aload_n hx hb dL_law_272 rfl (lv_at hl 0 rfl) ?_
  refine lv_iload_n hx hb dL_law_273 rfl (lv_at hl 3 rfl) ?_
  refine lv_iconst (v := nI 1) hx hb dL_law_274 (by decide) ?_
  refine w_iadd_n hx hb dL_law_275 ?_
  refine w_scr hx hb hX hbl hB hL (by omega) dL_law_276 ?_
  refine lv_aload_n hx hb dL_law_277 rfl (lv_at hl 0 rfl) ?_
  refine lv_iload_n hx hb dL_law_278 rfl (lv_at hl 3 rfl) ?_
  refine lv_iconst (v := nI 2) hx hb dL_law_279 (by decide) ?_
  refine w_iadd_n hx hb dL_law_280 ?_
  refine w_scr hx hb hX hbl hB hL (by omega) dL_law_281 ?_
  refine lv_aload_n hx hb dL_law_282 rfl (lv_at hl 0 rfl) ?_
  refine lv_iload_n hx hb dL_law_283 rfl (lv_at hl 3 rfl) ?_
  refine lv_iconst (v := nI 3) hx hb dL_law_284 (by decide) ?_
  refine w_iadd_n hx hb dL_law_285 ?_
  refine w_scr hx hb hX hbl hB hL (by omega) dL_law_286 ?_
  have hSS := hS.counted (xs ((5 * i) + 1)) (xs ((5 * i) + 2)) (xs ((5 * i) + 3))
  refine w_cl (r_V (As := [.int (xs ((5 * i) + 1)), .int (xs ((5 * i) + 2)), .int (xs ((5 * i) + 3))]) (rest := []) hF hB (c_X4_counted l env s.heap.size [] u (qx) (0) hAx (xs ((5 * i) + 1)) (xs ((5 * i) + 2)) (xs ((5 * i) + 3)) hZ.1 hS.2.2.1) cv_X4_counted tw_2_79 ⟨rfl, rfl, Nat.le_of_ble_eq_true rfl, Nat.le_of_ble_eq_true rfl⟩ (hB.recv hAx (cn_0 env u 0) rfl) rfl hl.1 rfl (lv_room (Nat.le_of_ble_eq_true rfl)) dL_law_287 ⟨(by show _ ≤ 600000; first | omega | (dsimp only; omega)), (by show _ ≤ 7302249; first | omega | (dsimp only; omega))⟩) hB (fun r ux H locs hq hB => ?_)
  obtain ⟨rfl, rfl⟩ := hq
  have e1 : u.2.1 = u.2.1 := rfl
  have e2 : u.2.2 = u.2.2 := rfl
  have hM1 := hM
  have hAx1 := hAx
  have hAm1 := hAm
  have hZ1 := hZ
  show W p l e _ s m _ below meth c H locs _ _ _ (F0 m _ ls [.long (ccounted u.2.1 (xs ((5 * i) + 1)) (xs ((5 * i) + 2)) (xs ((5 * i) + 3)))])
  refine lv_aload_n hx hb dL_law_290 rfl (lv_at hl 2 rfl) ?_
  refine lv_aload_n hx hb dL_law_291 rfl (lv_at hl 0 rfl) ?_
  refine lv_iload_n hx hb dL_law_292 rfl (lv_at hl 3 rfl) ?_
  refine lv_iconst (v := nI 1) hx hb dL_law_293 (by decide) ?_
  refine w_iadd_n hx hb dL_law_294 ?_
  refine w_scr hx hb hX hbl hB hL (by omega) dL_law_295 ?_
  refine lv_aload_n hx hb dL_law_296 rfl (lv_at hl 0 rfl) ?_
  refine lv_iload_n hx hb dL_law_297 rfl (lv_at hl 3 rfl) ?_
  refine lv_iconst (v := nI 2) hx hb dL_law_298 (by decide) ?_
  refine w_iadd_n hx hb dL_law_299 ?_
  refine w_scr hx hb hX hbl hB hL (by omega) dL_law_300 ?_
  refine lv_aload_n hx hb dL_law_301 rfl (lv_at hl 0 rfl) ?_
  refine lv_iload_n hx hb dL_law_302 rfl (lv_at hl 3 rfl) ?_
  refine lv_iconst (v := nI 3) hx hb dL_law_303 (by decide) ?_
  refine w_iadd_n hx hb dL_law_304 ?_
  refine w_scr hx hb hX hbl hB hL (by omega) dL_law_305 ?_
  refine w_cl (r_V (As := [.int (xs ((5 * i) + 1)), .int (xs ((5 * i) + 2)), .int (xs ((5 * i) + 3))]) (rest := [.long (ccounted u.2.1 (xs ((5 * i) + 1)) (xs ((5 * i) + 2)) (xs ((5 * i) + 3)))]) hF hB (c_X5_counted l env s.heap.size [] u (qm) (0) hAm1 (xs ((5 * i) + 1)) (xs ((5 * i) + 2)) (xs ((5 * i) + 3)) hM1 (by rw [e2]; exact hS.2.2.2.2) (by rw [e2]; exact hS.2.2.2.1)) cv_X5_counted tw_3_214 ⟨rfl, rfl, Nat.le_of_ble_eq_true rfl, Nat.le_of_ble_eq_true rfl⟩ (hB.recv hAm1 (cn_20 env u 0) rfl) rfl hl.1 rfl (lv_room (Nat.le_of_ble_eq_true rfl)) dL_law_306 ⟨(by show _ ≤ 600000; first | omega | (dsimp only; omega)), (by show _ ≤ 7302249; first | omega | (dsimp only; omega))⟩) hB (fun r ux H locs hq hB => ?_)
  obtain ⟨rfl, rfl⟩ := hq
  show W p l e _ s m _ below meth c H locs _ _ _ (F0 m _ ls [.long (mcounted u.2.2 (xs ((5 * i) + 1)) (xs ((5 * i) + 2)) (xs ((5 * i) + 3))), .long (ccounted u.2.1 (xs ((5 * i) + 1)) (xs ((5 * i) + 2)) (xs ((5 * i) + 3)))])
  refine W.lcmp hx hb dL_law_309 ?_
  refine lv_if_eq (tgt := 845) hx hb dL_law_310 (by decide) (fun _ => ?_) (fun hne => absurd (lgc_eq hSS) hne)
  refine W.widen (k := 100 + kc u.2.1) (n := 60000 + ks u.2.1) (by show _ ≤ 100 + kc u.2.1; first | omega | (dsimp only; omega) | omega) (by show _ ≤ 60000 + ks u.2.1; first | omega | (dsimp only; omega) | omega) ?_
  exact kk H locs ls u _ _ ⟨hB, hZ, hM, hAx, hAm, hS, ⟨rfl, rfl⟩, hl⟩
set_option maxHeartbeats 4000000 in
set_option maxRecDepth 100000 in
theorem lw_c5 {p : Program} {l : Launch} {e : Env} {s : State} {m : MethodId} {below : List Frame} {meth : Method} {c : Code} {b L qx qm i cells slots : Nat} {xs : Nat → Int32} {env : Ev} {H : Heap} {locs : List Loc} {ls : Array Slot} {u : St} {Q : State → Prop} (C0 : lw_At p s m meth c b L xs) (hL : L ≤ 2560) (hi : 5 * i + 5 ≤ L) (hP : LI env s b qx qm i H locs ls u cells slots) (kk : ∀ H locs ls u cells slots, LI env s b qx qm i H locs ls u cells slots → W p l e room_1 s m #[Value.ref b] below meth c H locs cells slots Q (F0 m 845 ls [])) : W p l e room_1 s m #[Value.ref b] below meth c H locs cells slots Q (F0 m 315 ls []) := by
  obtain ⟨hx, hb, hr, hml, hown, hts0, hX, hbl, hlocks, hgv⟩ := C0
  obtain ⟨hB, hZ, hM, hAx, hAm, hS, ⟨rfl, rfl⟩, hl⟩ := hP
  have hts : ∀ ww ∈ TT, ww.before #[Value.ref b] s = true := fun ww hw => tb_start hts0 ww hw _
  have hF : CallFix p m c cL_law 4 s #[Value.ref b] TT RL := ⟨hx, hb, hml, hown, hts⟩
  have hrm0 := hS.1.room
  refine lv_aload_n hx hb dL_law_315 rfl (lv_at hl 1 rfl) ?_
  refine lv_aload_n hx hb dL_law_316 rfl (lv_at hl 0 rfl) ?_
  refine lv_iload_n hx hb dL_law_317 rfl (lv_at hl 3 rfl) ?_
  refine lv_iconst (v := nI 1) hx hb dL_law_318 (by decide) ?_
  refine w_iadd_n hx hb dL_law_319 ?_
  refine w_scr hx hb hX hbl hB hL (by omega) dL_law_320 ?_
  refine lv_aload_n hx hb dL_law_321 rfl (lv_at hl 0 rfl) ?_
  refine lv_iload_n hx hb dL_law_322 rfl (lv_at hl 3 rfl) ?_
  refine lv_iconst (v := nI 2) hx hb dL_law_323 (by decide) ?_
  refine w_iadd_n hx hb dL_law_324 ?_
  refine w_scr hx hb hX hbl hB hL (by omega) dL_law_325 ?_
  refine lv_aload_n hx hb dL_law_326 rfl (lv_at hl 0 rfl) ?_
  refine lv_iload_n hx hb dL_law_327 rfl (lv_at hl 3 rfl) ?_
  refine lv_iconst (v := nI 3) hx hb dL_law_328 (by decide) ?_
  refine w_iadd_n hx hb dL_law_329 ?_
  refine w_scr hx hb hX hbl hB hL (by omega) dL_law_330 ?_
  refine lv_i2l hx hb dL_law_331 rfl ?_
  refine lv_bipush (v := nI 32) hx hb dL_law_332 (by decide) ?_
  refine lv_lshl hx hb dL_law_334 rfl ?_
  refine lv_aload_n hx hb dL_law_335 rfl (lv_at hl 0 rfl) ?_
  refine lv_iload_n hx hb dL_law_336 rfl (lv_at hl 3 rfl) ?_
  refine lv_iconst (v := nI 4) hx hb dL_law_337 (by decide) ?_
  refine w_iadd_n hx hb dL_law_338 ?_
  refine w_scr hx hb hX hbl hB hL (by omega) dL_law_339 ?_
  refine lv_i2l hx hb dL_law_340 rfl ?_
  refine lv_ldc2 (v := 4294967295) hx hb hown (hts _ tw_4_103) dL_law_341 ?_
  refine lv_land hx hb dL_law_344 ?_
  refine lv_lor hx hb dL_law_345 ?_
  have hSS := hS.write (xs ((5 * i) + 1)) (xs ((5 * i) + 2)) ((((xs ((5 * i) + 3)).toInt64) <<< ((nI 32).toInt64 &&& 63)) ||| (((xs ((5 * i) + 4)).toInt64) &&& 4294967295))
  have hkk : kc (cwrite u.2.1 (xs ((5 * i) + 1)) (xs ((5 * i) + 2)) ((((xs ((5 * i) + 3)).toInt64) <<< ((nI 32).toInt64 &&& 63)) ||| (((xs ((5 * i) + 4)).toInt64) &&& 4294967295))).2 = kc u.2.1 ∧ ks (cwrite u.2.1 (xs ((5 * i) + 1)) (xs ((5 * i) + 2)) ((((xs ((5 * i) + 3)).toInt64) <<< ((nI 32).toInt64 &&& 63)) ||| (((xs ((5 * i) + 4)).toInt64) &&& 4294967295))).2 = ks u.2.1 := kc_write _ _ _ _
  refine w_ci (r_V (As := [.int (xs ((5 * i) + 1)), .int (xs ((5 * i) + 2)), .long ((((xs ((5 * i) + 3)).toInt64) <<< ((nI 32).toInt64 &&& 63)) ||| (((xs ((5 * i) + 4)).toInt64) &&& 4294967295))]) (rest := []) hF hB (c_X4_write l env s.heap.size [] u (qx) (0) hAx (xs ((5 * i) + 1)) (xs ((5 * i) + 2)) ((((xs ((5 * i) + 3)).toInt64) <<< ((nI 32).toInt64 &&& 63)) ||| (((xs ((5 * i) + 4)).toInt64) &&& 4294967295)) hZ.1 hS.2.2.1 (fun t => by have h1 := hS.1.2.2.1.2 t; have h2 := cntN_le (gB u.2.1 10 t) (gN u.2.1 3 0 0); have h3 := hS.1.1.2.1.1; omega)) cv_X4_write tw_2_98 ⟨rfl, rfl, Nat.le_of_ble_eq_true rfl, Nat.le_of_ble_eq_true rfl⟩ (hB.recv hAx (cn_0 env u 0) rfl) rfl hl.1 rfl (lv_room (Nat.le_of_ble_eq_true rfl)) dL_law_346 ⟨(by show _ ≤ 600000; first | omega | (dsimp only; omega)), (by show _ ≤ 7302249; first | omega | (dsimp only; omega))⟩) hB (fun r ux H locs hq hB => ?_)
  obtain ⟨rfl, rfl⟩ := hq
  have hZ1 : SZ env (wC u (cwrite u.2.1 (xs ((5 * i) + 1)) (xs ((5 * i) + 2)) ((((xs ((5 * i) + 3)).toInt64) <<< ((nI 32).toInt64 &&& 63)) ||| (((xs ((5 * i) + 4)).toInt64) &&& 4294967295))).2) := SZ.cn hZ (fun f hf => wr_N _ _ _ _ (by omega))
  obtain ⟨u1, hu1⟩ : ∃ z : St, z = wC u (cwrite u.2.1 (xs ((5 * i) + 1)) (xs ((5 * i) + 2)) ((((xs ((5 * i) + 3)).toInt64) <<< ((nI 32).toInt64 &&& 63)) ||| (((xs ((5 * i) + 4)).toInt64) &&& 4294967295))).2 := ⟨_, rfl⟩
  rw [← hu1] at hB hZ1
  have e1 : u1.2.1 = (cwrite u.2.1 (xs ((5 * i) + 1)) (xs ((5 * i) + 2)) ((((xs ((5 * i) + 3)).toInt64) <<< ((nI 32).toInt64 &&& 63)) ||| (((xs ((5 * i) + 4)).toInt64) &&& 4294967295))).2 := by rw [hu1]; rfl
  have e2 : u1.2.2 = u.2.2 := by rw [hu1]; rfl
  have hM1 : MI u1 := by rw [hu1]; exact hM
  have hAx1 : At u1 0 0 qx := by rw [hu1]; exact hAx
  have hAm1 : At u1 20 0 qm := by rw [hu1]; exact hAm
  show W p l e _ s m _ below meth c H locs _ _ _ (F0 m _ ls [.int ((cwrite u.2.1 (xs ((5 * i) + 1)) (xs ((5 * i) + 2)) ((((xs ((5 * i) + 3)).toInt64) <<< ((nI 32).toInt64 &&& 63)) ||| (((xs ((5 * i) + 4)).toInt64) &&& 4294967295))).1)])
  refine lv_aload_n hx hb dL_law_349 rfl (lv_at hl 2 rfl) ?_
  refine lv_aload_n hx hb dL_law_350 rfl (lv_at hl 0 rfl) ?_
  refine lv_iload_n hx hb dL_law_351 rfl (lv_at hl 3 rfl) ?_
  refine lv_iconst (v := nI 1) hx hb dL_law_352 (by decide) ?_
  refine w_iadd_n hx hb dL_law_353 ?_
  refine w_scr hx hb hX hbl hB hL (by omega) dL_law_354 ?_
  refine lv_aload_n hx hb dL_law_355 rfl (lv_at hl 0 rfl) ?_
  refine lv_iload_n hx hb dL_law_356 rfl (lv_at hl 3 rfl) ?_
  refine lv_iconst (v := nI 2) hx hb dL_law_357 (by decide) ?_
  refine w_iadd_n hx hb dL_law_358 ?_
  refine w_scr hx hb hX hbl hB hL (by omega) dL_law_359 ?_
  refine lv_aload_n hx hb dL_law_360 rfl (lv_at hl 0 rfl) ?_
  refine lv_iload_n hx hb dL_law_361 rfl (lv_at hl 3 rfl) ?_
  refine lv_iconst (v := nI 3) hx hb dL_law_362 (by decide) ?_
  refine w_iadd_n hx hb dL_law_363 ?_
  refine w_scr hx hb hX hbl hB hL (by omega) dL_law_364 ?_
  refine lv_i2l hx hb dL_law_365 rfl ?_
  refine lv_bipush (v := nI 32) hx hb dL_law_366 (by decide) ?_
  refine lv_lshl hx hb dL_law_368 rfl ?_
  refine lv_aload_n hx hb dL_law_369 rfl (lv_at hl 0 rfl) ?_
  refine lv_iload_n hx hb dL_law_370 rfl (lv_at hl 3 rfl) ?_
  refine lv_iconst (v := nI 4) hx hb dL_law_371 (by decide) ?_
  refine w_iadd_n hx hb dL_law_372 ?_
  refine w_scr hx hb hX hbl hB hL (by omega) dL_law_373 ?_
  refine lv_i2l hx hb dL_law_374 rfl ?_
  refine lv_ldc2 (v := 4294967295) hx hb hown (hts _ tw_4_103) dL_law_375 ?_
  refine lv_land hx hb dL_law_378 ?_
  refine lv_lor hx hb dL_law_379 ?_
  refine w_ci (r_V (As := [.int (xs ((5 * i) + 1)), .int (xs ((5 * i) + 2)), .long ((((xs ((5 * i) + 3)).toInt64) <<< ((nI 32).toInt64 &&& 63)) ||| (((xs ((5 * i) + 4)).toInt64) &&& 4294967295))]) (rest := [.int ((cwrite u.2.1 (xs ((5 * i) + 1)) (xs ((5 * i) + 2)) ((((xs ((5 * i) + 3)).toInt64) <<< ((nI 32).toInt64 &&& 63)) ||| (((xs ((5 * i) + 4)).toInt64) &&& 4294967295))).1)]) hF hB (c_X5_write l env s.heap.size [] u1 (qm) (0) hAm1 (xs ((5 * i) + 1)) (xs ((5 * i) + 2)) ((((xs ((5 * i) + 3)).toInt64) <<< ((nI 32).toInt64 &&& 63)) ||| (((xs ((5 * i) + 4)).toInt64) &&& 4294967295)) hM1 (by rw [e2]; exact hS.2.2.2.2) (by rw [e2]; exact hS.2.2.2.1)) cv_X5_write tw_3_230 ⟨rfl, rfl, Nat.le_of_ble_eq_true rfl, Nat.le_of_ble_eq_true rfl⟩ (hB.recv hAm1 (cn_20 env u1 0) rfl) rfl hl.1 rfl (lv_room (Nat.le_of_ble_eq_true rfl)) dL_law_380 ⟨(by show _ ≤ 600000; first | omega | (dsimp only; omega)), (by show _ ≤ 7302249; first | omega | (dsimp only; omega))⟩) hB (fun r ux H locs hq hB => ?_)
  obtain ⟨rfl, rfl⟩ := hq
  show W p l e _ s m _ below meth c H locs _ _ _ (F0 m _ ls [.int ((mwrite u1.2.2 (xs ((5 * i) + 1)) (xs ((5 * i) + 2)) ((((xs ((5 * i) + 3)).toInt64) <<< ((nI 32).toInt64 &&& 63)) ||| (((xs ((5 * i) + 4)).toInt64) &&& 4294967295))).1), .int ((cwrite u.2.1 (xs ((5 * i) + 1)) (xs ((5 * i) + 2)) ((((xs ((5 * i) + 3)).toInt64) <<< ((nI 32).toInt64 &&& 63)) ||| (((xs ((5 * i) + 4)).toInt64) &&& 4294967295))).1)])
  refine lv_icmp_eq (tgt := 845) hx hb dL_law_383 (by decide) (fun _ => ?_) (fun hne => absurd (by rw [e2]; exact hSS.1) hne)
  refine W.widen (k := 100 + kc (wM u1 (mwrite u1.2.2 (xs ((5 * i) + 1)) (xs ((5 * i) + 2)) ((((xs ((5 * i) + 3)).toInt64) <<< ((nI 32).toInt64 &&& 63)) ||| (((xs ((5 * i) + 4)).toInt64) &&& 4294967295))).2).2.1) (n := 60000 + ks (wM u1 (mwrite u1.2.2 (xs ((5 * i) + 1)) (xs ((5 * i) + 2)) ((((xs ((5 * i) + 3)).toInt64) <<< ((nI 32).toInt64 &&& 63)) ||| (((xs ((5 * i) + 4)).toInt64) &&& 4294967295))).2).2.1) (by show _ ≤ 100 + kc u1.2.1; rw [e1]; first | omega | (dsimp only; omega) | omega) (by show _ ≤ 60000 + ks u1.2.1; rw [e1]; first | omega | (dsimp only; omega) | omega) ?_
  exact kk H locs ls (wM u1 (mwrite u1.2.2 (xs ((5 * i) + 1)) (xs ((5 * i) + 2)) ((((xs ((5 * i) + 3)).toInt64) <<< ((nI 32).toInt64 &&& 63)) ||| (((xs ((5 * i) + 4)).toInt64) &&& 4294967295))).2) _ _ ⟨hB, SZ.m (ph := u1.1) (c := u1.2.1) (m := u1.2.2) hZ1, hM1, hAx1, hAm1, (by show SS u1.2.1 _; rw [e1, e2]; exact hSS.2), ⟨rfl, rfl⟩, hl⟩
set_option maxHeartbeats 4000000 in
set_option maxRecDepth 100000 in
theorem lw_c6 {p : Program} {l : Launch} {e : Env} {s : State} {m : MethodId} {below : List Frame} {meth : Method} {c : Code} {b L qx qm i cells slots : Nat} {xs : Nat → Int32} {env : Ev} {H : Heap} {locs : List Loc} {ls : Array Slot} {u : St} {Q : State → Prop} (C0 : lw_At p s m meth c b L xs) (hL : L ≤ 2560) (hi : 5 * i + 5 ≤ L) (hP : LI env s b qx qm i H locs ls u cells slots) (kk : ∀ H locs ls u cells slots, LI env s b qx qm i H locs ls u cells slots → W p l e room_1 s m #[Value.ref b] below meth c H locs cells slots Q (F0 m 845 ls [])) : W p l e room_1 s m #[Value.ref b] below meth c H locs cells slots Q (F0 m 388 ls []) := by
  obtain ⟨hx, hb, hr, hml, hown, hts0, hX, hbl, hlocks, hgv⟩ := C0
  obtain ⟨hB, hZ, hM, hAx, hAm, hS, ⟨rfl, rfl⟩, hl⟩ := hP
  have hts : ∀ ww ∈ TT, ww.before #[Value.ref b] s = true := fun ww hw => tb_start hts0 ww hw _
  have hF : CallFix p m c cL_law 4 s #[Value.ref b] TT RL := ⟨hx, hb, hml, hown, hts⟩
  have hrm0 := hS.1.room
  refine lv_aload_n hx hb dL_law_388 rfl (lv_at hl 1 rfl) ?_
  refine lv_aload_n hx hb dL_law_389 rfl (lv_at hl 0 rfl) ?_
  refine lv_iload_n hx hb dL_law_390 rfl (lv_at hl 3 rfl) ?_
  refine lv_iconst (v := nI 1) hx hb dL_law_391 (by decide) ?_
  refine w_iadd_n hx hb dL_law_392 ?_
  refine w_scr hx hb hX hbl hB hL (by omega) dL_law_393 ?_
  refine lv_aload_n hx hb dL_law_394 rfl (lv_at hl 0 rfl) ?_
  refine lv_iload_n hx hb dL_law_395 rfl (lv_at hl 3 rfl) ?_
  refine lv_iconst (v := nI 2) hx hb dL_law_396 (by decide) ?_
  refine w_iadd_n hx hb dL_law_397 ?_
  refine w_scr hx hb hX hbl hB hL (by omega) dL_law_398 ?_
  refine lv_aload_n hx hb dL_law_399 rfl (lv_at hl 0 rfl) ?_
  refine lv_iload_n hx hb dL_law_400 rfl (lv_at hl 3 rfl) ?_
  refine lv_iconst (v := nI 3) hx hb dL_law_401 (by decide) ?_
  refine w_iadd_n hx hb dL_law_402 ?_
  refine w_scr hx hb hX hbl hB hL (by omega) dL_law_403 ?_
  refine lv_aload_n hx hb dL_law_404 rfl (lv_at hl 0 rfl) ?_
  refine lv_iload_n hx hb dL_law_405 rfl (lv_at hl 3 rfl) ?_
  refine lv_iconst (v := nI 4) hx hb dL_law_406 (by decide) ?_
  refine w_iadd_n hx hb dL_law_407 ?_
  refine w_scr hx hb hX hbl hB hL (by omega) dL_law_408 ?_
  have hSS := hS.add (xs ((5 * i) + 1)) (xs ((5 * i) + 2)) (xs ((5 * i) + 3)) (xs ((5 * i) + 4))
  have hkk : kc (cadd u.2.1 (xs ((5 * i) + 1)) (xs ((5 * i) + 2)) (xs ((5 * i) + 3)) (xs ((5 * i) + 4))).2 = kc u.2.1 ∧ ks (cadd u.2.1 (xs ((5 * i) + 1)) (xs ((5 * i) + 2)) (xs ((5 * i) + 3)) (xs ((5 * i) + 4))).2 = ks u.2.1 := kc_add _ _ _ _ _
  refine w_ci (r_V (As := [.int (xs ((5 * i) + 1)), .int (xs ((5 * i) + 2)), .int (xs ((5 * i) + 3)), .int (xs ((5 * i) + 4))]) (rest := []) hF hB (c_X4_add l env s.heap.size [] u (qx) (0) hAx (xs ((5 * i) + 1)) (xs ((5 * i) + 2)) (xs ((5 * i) + 3)) (xs ((5 * i) + 4)) hZ.1 hS.2.2.1) cv_X4_add tw_2_106 ⟨rfl, rfl, Nat.le_of_ble_eq_true rfl, Nat.le_of_ble_eq_true rfl⟩ (hB.recv hAx (cn_0 env u 0) rfl) rfl hl.1 rfl (lv_room (Nat.le_of_ble_eq_true rfl)) dL_law_409 ⟨(by show _ ≤ 600000; first | omega | (dsimp only; omega)), (by show _ ≤ 7302249; first | omega | (dsimp only; omega))⟩) hB (fun r ux H locs hq hB => ?_)
  obtain ⟨rfl, rfl⟩ := hq
  have hZ1 : SZ env (wC u (cadd u.2.1 (xs ((5 * i) + 1)) (xs ((5 * i) + 2)) (xs ((5 * i) + 3)) (xs ((5 * i) + 4))).2) := SZ.cn hZ (fun f hf => by rw [ad_N])
  obtain ⟨u1, hu1⟩ : ∃ z : St, z = wC u (cadd u.2.1 (xs ((5 * i) + 1)) (xs ((5 * i) + 2)) (xs ((5 * i) + 3)) (xs ((5 * i) + 4))).2 := ⟨_, rfl⟩
  rw [← hu1] at hB hZ1
  have e1 : u1.2.1 = (cadd u.2.1 (xs ((5 * i) + 1)) (xs ((5 * i) + 2)) (xs ((5 * i) + 3)) (xs ((5 * i) + 4))).2 := by rw [hu1]; rfl
  have e2 : u1.2.2 = u.2.2 := by rw [hu1]; rfl
  have hM1 : MI u1 := by rw [hu1]; exact hM
  have hAx1 : At u1 0 0 qx := by rw [hu1]; exact hAx
  have hAm1 : At u1 20 0 qm := by rw [hu1]; exact hAm
  show W p l e _ s m _ below meth c H locs _ _ _ (F0 m _ ls [.int ((cadd u.2.1 (xs ((5 * i) + 1)) (xs ((5 * i) + 2)) (xs ((5 * i) + 3)) (xs ((5 * i) + 4))).1)])
  refine lv_aload_n hx hb dL_law_412 rfl (lv_at hl 2 rfl) ?_
  refine lv_aload_n hx hb dL_law_413 rfl (lv_at hl 0 rfl) ?_
  refine lv_iload_n hx hb dL_law_414 rfl (lv_at hl 3 rfl) ?_
  refine lv_iconst (v := nI 1) hx hb dL_law_415 (by decide) ?_
  refine w_iadd_n hx hb dL_law_416 ?_
  refine w_scr hx hb hX hbl hB hL (by omega) dL_law_417 ?_
  refine lv_aload_n hx hb dL_law_418 rfl (lv_at hl 0 rfl) ?_
  refine lv_iload_n hx hb dL_law_419 rfl (lv_at hl 3 rfl) ?_
  refine lv_iconst (v := nI 2) hx hb dL_law_420 (by decide) ?_
  refine w_iadd_n hx hb dL_law_421 ?_
  refine w_scr hx hb hX hbl hB hL (by omega) dL_law_422 ?_
  refine lv_aload_n hx hb dL_law_423 rfl (lv_at hl 0 rfl) ?_
  refine lv_iload_n hx hb dL_law_424 rfl (lv_at hl 3 rfl) ?_
  refine lv_iconst (v := nI 3) hx hb dL_law_425 (by decide) ?_
  refine w_iadd_n hx hb dL_law_426 ?_
  refine w_scr hx hb hX hbl hB hL (by omega) dL_law_427 ?_
  refine lv_aload_n hx hb dL_law_428 rfl (lv_at hl 0 rfl) ?_
  refine lv_iload_n hx hb dL_law_429 rfl (lv_at hl 3 rfl) ?_
  refine lv_iconst (v := nI 4) hx hb dL_law_430 (by decide) ?_
  refine w_iadd_n hx hb dL_law_431 ?_
  refine w_scr hx hb hX hbl hB hL (by omega) dL_law_432 ?_
  refine w_ci (r_V (As := [.int (xs ((5 * i) + 1)), .int (xs ((5 * i) + 2)), .int (xs ((5 * i) + 3)), .int (xs ((5 * i) + 4))]) (rest := [.int ((cadd u.2.1 (xs ((5 * i) + 1)) (xs ((5 * i) + 2)) (xs ((5 * i) + 3)) (xs ((5 * i) + 4))).1)]) hF hB (c_X5_add l env s.heap.size [] u1 (qm) (0) hAm1 (xs ((5 * i) + 1)) (xs ((5 * i) + 2)) (xs ((5 * i) + 3)) (xs ((5 * i) + 4)) hM1 (by rw [e2]; exact hS.2.2.2.2) (by rw [e2]; exact hS.2.2.2.1)) cv_X5_add tw_3_238 ⟨rfl, rfl, Nat.le_of_ble_eq_true rfl, Nat.le_of_ble_eq_true rfl⟩ (hB.recv hAm1 (cn_20 env u1 0) rfl) rfl hl.1 rfl (lv_room (Nat.le_of_ble_eq_true rfl)) dL_law_433 ⟨(by show _ ≤ 600000; first | omega | (dsimp only; omega)), (by show _ ≤ 7302249; first | omega | (dsimp only; omega))⟩) hB (fun r ux H locs hq hB => ?_)
  obtain ⟨rfl, rfl⟩ := hq
  show W p l e _ s m _ below meth c H locs _ _ _ (F0 m _ ls [.int ((madd u1.2.2 (xs ((5 * i) + 1)) (xs ((5 * i) + 2)) (xs ((5 * i) + 3)) (xs ((5 * i) + 4))).1), .int ((cadd u.2.1 (xs ((5 * i) + 1)) (xs ((5 * i) + 2)) (xs ((5 * i) + 3)) (xs ((5 * i) + 4))).1)])
  refine lv_icmp_eq (tgt := 845) hx hb dL_law_436 (by decide) (fun _ => ?_) (fun hne => absurd (by rw [e2]; exact hSS.1) hne)
  refine W.widen (k := 100 + kc (wM u1 (madd u1.2.2 (xs ((5 * i) + 1)) (xs ((5 * i) + 2)) (xs ((5 * i) + 3)) (xs ((5 * i) + 4))).2).2.1) (n := 60000 + ks (wM u1 (madd u1.2.2 (xs ((5 * i) + 1)) (xs ((5 * i) + 2)) (xs ((5 * i) + 3)) (xs ((5 * i) + 4))).2).2.1) (by show _ ≤ 100 + kc u1.2.1; rw [e1]; first | omega | (dsimp only; omega) | omega) (by show _ ≤ 60000 + ks u1.2.1; rw [e1]; first | omega | (dsimp only; omega) | omega) ?_
  exact kk H locs ls (wM u1 (madd u1.2.2 (xs ((5 * i) + 1)) (xs ((5 * i) + 2)) (xs ((5 * i) + 3)) (xs ((5 * i) + 4))).2) _ _ ⟨hB, SZ.m (ph := u1.1) (c := u1.2.1) (m := u1.2.2) hZ1, hM1, hAx1, hAm1, (by show SS u1.2.1 _; rw [e1, e2]; exact hSS.2), ⟨rfl, rfl⟩, hl⟩

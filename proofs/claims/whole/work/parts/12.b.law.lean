/-! the law begins -/
theorem tb_start {s : State} {A : Array Value} (hts : ∀ w ∈ lw_tbl, w.before A s = true) : Tb s := by
  intro w hw a
  obtain ⟨h1, h2⟩ := List.mem_filter.mp hw
  have h := hts w h1
  cases w
  case arrayClass ty => exact h
  case fieldLinkNest => exact va_any rfl h
  case methodLinkNest => exact va_any rfl h
  case castable => exact va_any rfl h
  case arrayOver ty =>
    cases ty
    case object C => exact va_AO.use (va_AO.of h)
    all_goals (have hk := h2; simp only [wk, Bool.and_eq_true] at hk; exact va_any hk.1 h)
  all_goals (have hk := h2; simp only [wk, Bool.and_eq_true] at hk; exact va_any hk.1 h)
theorem arr_of {s : State} {A : Array Value} {ty : FieldType} (h : (Cond.arrayClass ty).before A s = true) : ∃ cA : ClassId, ArrOfT s cA ty ∧ s.vm.findClass ("[" ++ ty.toString) = some cA := by
  obtain ⟨cA, kA, comp, h1, h2, h3⟩ := Cond.arrayClass_spec h
  exact ⟨cA, fun n z => ⟨(fun k h => by cases h), kA, h2, comp, h3⟩, h1⟩
theorem arr_ofO {s : State} {A : Array Value} {C : String} (h : (Cond.arrayOver (.object C)).before A s = true) : ∃ cA : ClassId, ArrOfT s cA (.object C) ∧ va_RA s cA (.object C) := by
  obtain ⟨comp, c, k, h1, h2, h3, h4, h5⟩ := Cond.arrayOver_spec h
  exact ⟨c, fun n z => ⟨(fun k h => by cases h), k, h3, comp, h4⟩, k, comp, h3, h4, h1, h5⟩
theorem law_env {p : Program} {s : State} {m : MethodId} {meth : Method} {c : Code} {b L : Nat} {xs : Nat → Int32} (C0 : lw_At p s m meth c b L xs) : ∃ env : Ev, Bd env s.heap.size [] (u00 env m01) s s.heap [] := by
  obtain ⟨hx, hb, hr, hml, hown, hts, hX, hbl, hlocks, hgv⟩ := C0
  have hT := tb_start hts
  have ht : ∀ w ∈ TT, w.before #[Value.ref b] s = true := fun w hw => hT w hw _
  obtain ⟨c0, i0, k0⟩ := u_known (C := RJx4a65c) (T := TJx4a65c) (N := 3) (n := 3) ht in_AL (ht _ tw_1_27)
  obtain ⟨c1, i1, k1⟩ := u_known (C := RX0) (T := TX0) (N := 4) (n := 4) ht in_X0 (ht _ tw_2_150)
  obtain ⟨c2, i2, k2⟩ := u_known (C := RX1) (T := TX1) (N := 4) (n := 4) ht in_X1 (ht _ tw_1_52)
  obtain ⟨c3, i3, k3⟩ := u_known (C := RX2) (T := TX2) (N := 3) (n := 3) ht in_X2 (ht _ tw_1_121)
  obtain ⟨c4, i4, k4⟩ := u_known (C := RX3) (T := TX3) (N := 14) (n := 14) ht in_X3 (ht _ tw_1_200)
  obtain ⟨c5, i5, k5⟩ := u_known (C := RX4) (T := TX4) (N := 6) (n := 6) ht in_X4 (ht _ tw_1_17)
  obtain ⟨c6, i6, k6⟩ := u_known (C := RX5) (T := TX5) (N := 27) (n := 27) ht in_X5 (ht _ tw_3_90)
  obtain ⟨dC, dI, hKc⟩ : ∃ (dC : Nat → ClassId) (dI : Nat → Nat → Nat), ∀ (k : Nat) (q : vw_C), vwCl[k]? = some q → u_Kn s q.1 q.2.1 q.2.2 (dC k) (dI k) := by
    refine ⟨fun k => match k with | 0 => c0 | 1 => c1 | 2 => c2 | 3 => c3 | 4 => c4 | 5 => c5 | _ => c6, fun k => match k with | 0 => i0 | 1 => i1 | 2 => i2 | 3 => i3 | 4 => i4 | 5 => i5 | _ => i6, ?_⟩
    intro k q hq
    match k, hq with
    | 0, hq => cases hq; exact k0
    | 1, hq => cases hq; exact k1
    | 2, hq => cases hq; exact k2
    | 3, hq => cases hq; exact k3
    | 4, hq => cases hq; exact k4
    | 5, hq => cases hq; exact k5
    | 6, hq => cases hq; exact k6
    | k + 7, hq => simp [vwCl] at hq
  obtain ⟨t0, a0, n0⟩ := arr_of (ht _ tw_1_80)
  obtain ⟨t1, a1, n1⟩ := arr_of (ht _ tw_2_33)
  obtain ⟨t2, a2, n2⟩ := arr_of (ht _ tw_2_32)
  obtain ⟨t3, a3, n3⟩ := arr_ofO (ht _ tw_1_25)
  obtain ⟨t4, a4, n4⟩ := arr_ofO (ht _ tw_1_185)
  have hs := flat_of_before _ hgv
  have hA : ∀ a : Nat, a < s.heap.size → ¬ (fun q : Nat => s.heap.size ≤ q) a := fun a h => Nat.not_le.mpr h
  have harr : (Cond.arrayOf (.static "java/util/ArrayList" "DEFAULTCAPACITY_EMPTY_ELEMENTDATA" "[Ljava/lang/Object;") (.object "java/lang/Object")).before #[Value.ref b] s = true := hs _ (by decide +kernel)
  have hlen : (Cond.eq (.length (.static "java/util/ArrayList" "DEFAULTCAPACITY_EMPTY_ELEMENTDATA" "[Ljava/lang/Object;")) (.int 0)).before #[Value.ref b] s = true := hs _ (by decide +kernel)
  have hmi : (Cond.isRef (.mirror "[Ljava/lang/Object;")).before #[Value.ref b] s = true := hs _ (by decide +kernel)
  obtain ⟨z, hz, hT0⟩ := va_Tof (N := 0) (f := fun _ => .null) (A := fun q : Nat => s.heap.size ≤ q) (by decide) harr (va_eqt hlen) (fun j hj => absurd hj (Nat.not_lt_zero j)) hA
  obtain ⟨mi, hMi⟩ := va_Mi.of hmi
  have hZ := va_Zof (A := fun q : Nat => s.heap.size ≤ q) (hts (.laysStatic "java/util/ArrayList" "DEFAULTCAPACITY_EMPTY_ELEMENTDATA" "[Ljava/lang/Object;") (by decide +kernel)) (ht _ tw_1_4) hz hA
  refine ⟨((dC, dI), fun k => match k with | 0 => t0 | 1 => t1 | 2 => t2 | 3 => t3 | _ => t4, z, mi), ⟨?_, ⟨hKc, ?_⟩, ?_⟩, va_S.rf, hT, ⟨hZ, hT0, hMi, va_Dc.of (hts (.declares ⟨"java/lang/Object", "getClass", "()Ljava/lang/Class;"⟩) (by decide +kernel))⟩, Nat.le_refl _⟩
  · intro k q h; simp [pool, u00, sK] at h
  · intro k q hk
    match k, hk with
    | 0, hk => cases hk; exact ⟨a0, n0⟩
    | 1, hk => cases hk; exact ⟨a1, n1⟩
    | 2, hk => cases hk; exact ⟨a2, n2⟩
    | 3, hk => cases hk; exact ⟨a3, n3⟩
    | 4, hk => cases hk; exact ⟨a4, n4⟩
    | k + 5, hk => simp [tyL] at hk
  · exact ⟨fun i j p q h => by simp [pool, u00, sK] at h, fun k q h => by simp [pool, u00, sK] at h⟩
/-- what stands at the loop's head -/
def LI (env : Ev) (s : State) (b qx qm i : Nat) (H : Heap) (locs : List Loc) (ls : Array Slot) (u : St) (cells slots : Nat) : Prop := Bd env s.heap.size [] u s H locs ∧ SZ env u ∧ MI u ∧ At u 0 0 qx ∧ At u 20 0 qm ∧ SS u.2.1 u.2.2 ∧ (cells = 100 + kc u.2.1 ∧ slots = 60000 + ks u.2.1) ∧ lv_has ls 4 [(0, .ref b), (1, .ref qx), (2, .ref qm), (3, .int (nI (5 * i)))]
section LWp
variable {p : Program} {l : Launch} {e : Env} {R : Room} {s : State} {m : MethodId} {args : Array Value} {below : List Frame} {meth : Method} {c : Code} {H : Heap} {locs : List Loc} {cells slots : Nat} {Q : State → Prop} {cc : ByteArray} {pc : Nat} {ls : Array Slot} {rest : List Value} {env : Ev} {X : va_W} {u : St}
theorem w_scr {b L j : Nat} {xs : Nat → Int32} (hx : p.tables.exec = Jvm.exec) (hb : c.code = cc) (hX : va_X b L xs s s.heap) (hbl : b < s.heap.size) (hB : Bd env s.heap.size X u s H locs) (hL : L ≤ 2560) (hj : j < L) (hdg : decode cc pc = .ok (.iaload, 1)) (kk : W p l e R s m args below meth c H locs cells slots Q (F0 m (pc + 1) ls (.int (xs j) :: rest))) : W p l e R s m args below meth c H locs cells slots Q (F0 m pc ls (.int (nI j) :: .ref b :: rest)) := by
  refine va_sld hx hb hX hbl (Nat.not_le.mpr hbl) hB.2.1 (vp_in_nI hj (by omega)) hdg ?_
  rw [nI_clamp (by omega)]; exact kk
end LWp
theorem MI.kp {u v : St} (h : MI u) (hk : Kp u v) : MI v := fun k hm => (hk k 0 (by intro z; subst z; simp at hm) (h k hm)).1
theorem kc_sites (c : Lg) (v1 v2 : Int32) : kc (csites c v1 v2).2 = kc c ∧ ks (csites c v1 v2).2 = ks c := by
  unfold csites
  rcases ix v1 5 with _ | a
  · exact ⟨rfl, rfl⟩
  by_cases z : a < 2
  · simp only [if_pos z]; exact ⟨by trivial, by trivial⟩
  simp only [if_neg z]
  rcases ix v2 a with _ | b
  · exact ⟨rfl, rfl⟩
  by_cases z2 : 0 < gN c 3 0 0 ∨ 0 < gN c 3 1 0
  · simp only [if_pos z2]; exact ⟨by trivial, by trivial⟩
  · simp only [if_neg z2]; exact kc_N (c := c) (by rw [gN_f _ _ _ _ _ (by decide), gN_f _ _ _ _ _ (by decide)]) (by rw [gN_f _ _ _ _ _ (by decide), gN_f _ _ _ _ _ (by decide)])
theorem kc_thing (c : Lg) (v : Int32) (b : Bool) : kc c ≤ kc (cthing c v b).2 ∧ ks c ≤ ks (cthing c v b).2 := by
  unfold cthing
  rcases ix v (gN c 0 0 0) with _ | w
  · exact ⟨Nat.le_refl _, Nat.le_refl _⟩
  by_cases z : gN c 3 0 0 < 12
  · simp only [if_pos z]; have := kc_th c w b; omega
  · simp only [if_neg z]; exact ⟨Nat.le_refl _, Nat.le_refl _⟩
theorem kc_begin (c : Lg) (v : Int32) : kc c ≤ kc (cbegin c v).2 ∧ ks c ≤ ks (cbegin c v).2 := by
  unfold cbegin
  rcases ix v (gN c 0 0 0) with _ | w
  · exact ⟨Nat.le_refl _, Nat.le_refl _⟩
  by_cases z : gN c 3 1 0 < 150
  · simp only [if_pos z]; have := kc_beg c w; omega
  · simp only [if_neg z]; exact ⟨Nat.le_refl _, Nat.le_refl _⟩
theorem kc_abort (c : Lg) (v : Int32) : kc (cabort c v).2 = kc c ∧ ks (cabort c v).2 = ks c := by
  unfold cabort
  rcases ix v (gN c 3 1 0) with _ | t
  · exact ⟨rfl, rfl⟩
  by_cases z : gN c 16 t 0 = 0
  · simp only [if_pos z]; exact kc_16 c t 3
  · simp only [if_neg z]; exact ⟨by trivial, by trivial⟩
theorem kc_put (c : Lg) (t k : Nat) (x : Int64) : kc (cPut c t k x) = kc c ∧ ks (cPut c t k x) = ks c := kc_N (cP1_f c t k (f := 3) (by decide)) (cP1_f c t k (f := 32) (by decide))
theorem kc_write (c : Lg) (v1 v2 : Int32) (x : Int64) : kc (cwrite c v1 v2 x).2 = kc c ∧ ks (cwrite c v1 v2 x).2 = ks c := by
  unfold cwrite
  rcases ix v1 (gN c 3 1 0) with _ | t
  · exact ⟨rfl, rfl⟩
  rcases ix v2 (gN c 3 0 0) with _ | k
  · exact ⟨rfl, rfl⟩
  by_cases z1 : gB c 4 k 0 = true
  · simp only [if_pos z1]; exact ⟨by trivial, by trivial⟩
  by_cases z : gN c 16 t 0 = 0
  · simp only [if_neg z1, if_pos z]; exact kc_put c t k x
  · simp only [if_neg z1, if_neg z]; exact ⟨by trivial, by trivial⟩
theorem kc_add (c : Lg) (v1 v2 v3 x : Int32) : kc (cadd c v1 v2 v3 x).2 = kc c ∧ ks (cadd c v1 v2 v3 x).2 = ks c := by
  unfold cadd
  rcases ix v1 (gN c 3 1 0) with _ | t
  · exact ⟨rfl, rfl⟩
  rcases ix v2 (gN c 3 0 0) with _ | k
  · exact ⟨rfl, rfl⟩
  by_cases z1 : gB c 4 k 0 = true
  · simp only [if_pos z1]
    rcases ix v3 8 with _ | e
    · exact ⟨rfl, rfl⟩
    by_cases z : gN c 16 t 0 = 0
    · simp only [if_pos z]; exact ⟨by trivial, by trivial⟩
    · simp only [if_neg z]; exact ⟨by trivial, by trivial⟩
  · simp only [if_neg z1]; exact ⟨by trivial, by trivial⟩
theorem kc_commit {c : Lg} (hG : GI c) (v : Int32) : kc c ≤ kc (ccommit c v).2 ∧ ks c ≤ ks (ccommit c v).2 := by
  unfold ccommit
  rcases hx : ix v (gN c 3 1 0) with _ | t
  · exact ⟨Nat.le_refl _, Nat.le_refl _⟩
  have hT := hG.1.2.1.2
  obtain ⟨ht, -⟩ := ix_some (by omega) hx
  have hp := hG.1.2.2.2 t ht
  have hn := hG.1.1.2
  by_cases z : gN c 16 t 0 = 0
  · simp only [if_pos z]
    unfold cCm; split
    · split
      · have h1 := kc_cmA c t; have h2 := kc_cmH c t; omega
      · exact kc_mk c t (by omega)
    · have := kc_16 c t 3; omega
  · simp only [if_neg z]; exact ⟨Nat.le_refl _, Nat.le_refl _⟩
theorem kc_deliver {c : Lg} (hG : GI c) (v : Int32) : kc c ≤ kc (cdeliver c v).2 ∧ ks c ≤ ks (cdeliver c v).2 := by
  unfold cdeliver
  rcases hx : ix v (gN c 3 2 0) with _ | i
  · exact ⟨Nat.le_refl _, Nat.le_refl _⟩
  have hq := hG.okm.1.1
  obtain ⟨hi, -⟩ := ix_some (by omega) hx
  by_cases z : cCanCome c (gN c 31 0 i) = true
  · simp only [if_pos z]
    have hm := hG.msg hi
    have hr := kc_rem c i
    have nn : ∀ {n : Nat}, (n ≠ 3 ∧ n ≠ 31) → gN (cRem c i) n = gN c n := fun hn => cRem_N _ _ hn
    have := kc_recv (cRem c i) (gN c 31 0 i) (by rw [nn (by decide), nn (by decide)]; exact hm.2.2.2) (by rw [nn (by decide)]; exact hm.2.1)
    unfold cDl; omega
  · simp only [if_neg z]; exact ⟨Nat.le_refl _, Nat.le_refl _⟩
theorem kc_call {c : Lg} (hG : GI c) (v : Int32) : kc c ≤ kc (call c v).2 ∧ ks c ≤ ks (call c v).2 := by
  unfold call
  rcases ix v 501 with _ | n
  · exact ⟨Nat.le_refl _, Nat.le_refl _⟩
  · exact hG.kcA 0 n (Nat.zero_le _)

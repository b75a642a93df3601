/-! the class's structure under new objects and longer lists -/
theorem gN_uN (g : Lg) (f i j v f' i' j' : Nat) : gN (uN g f i j v) f' i' j' = if f' = f ∧ i' = i ∧ j' = j then v else gN g f' i' j' := by
  show up3 (gN g) f i j v f' i' j' = _
  unfold up3
  by_cases h : f' = f
  · subst h; simp
  · simp [h]
theorem gN_f (g : Lg) (f i j v : Nat) {f' : Nat} (h : f' ≠ f) : gN (uN g f i j v) f' = gN g f' := by
  show up3 (gN g) f i j v f' = _
  unfold up3; rw [if_neg h]
def PI (env : Ev) (u : St) : Prop := (∀ i, i < 7 → gN u.2.1 3 i 0 ≤ sM u 0 (sM u 2 i) ∧ sM u 0 (sM u 2 i) ≤ 4096 ∧ (0 < sM u 0 (sM u 2 i) → (3, sM u 2 i) ∈ sK u) ∧ (sM u 0 (sM u 2 i) = 0 → sA u 3 (sM u 2 i) = env.2.2.1)) ∧ (∀ i i', i < 7 → i' < 7 → 0 < sM u 0 (sM u 2 i) → sM u 2 i = sM u 2 i' → i = i') ∧ (∀ z, (3, z) ∈ sK u → z < sM u 3 0) ∧ (∀ i, (2, i) ∈ sK u → i < 7) ∧ (∀ i, i < 7 → sM u 2 i < sM u 3 0)
theorem SI.pi {env : Ev} {u : St} (h : SI env u) : PI env u := h.2.2.2.2.2.1
theorem PI.mk {env : Ev} {u w : St} (h : PI env u) (hM : ∀ f, f ≠ 1 → sM w f = sM u f) (hA : ∀ z, sA w 3 z = sA u 3 z) (hK : ∀ k j, k = 2 ∨ k = 3 → ((k, j) ∈ sK w ↔ (k, j) ∈ sK u)) (hN : gN w.2.1 3 = gN u.2.1 3) : PI env w := by
  obtain ⟨h1, h2, h3, h4, h5⟩ := h
  have m0 := hM 0 (by decide); have m2 := hM 2 (by decide); have m3 := hM 3 (by decide)
  refine ⟨fun i hi => ?_, ?_, ?_, ?_, ?_⟩
  · rw [m0, m2, hN, hA, hK _ _ (Or.inr rfl)]; exact h1 i hi
  · rw [m0, m2]; exact h2
  · intro z hz; rw [m3]; exact h3 z ((hK _ _ (Or.inr rfl)).mp hz)
  · intro z hz; exact h4 z ((hK _ _ (Or.inl rfl)).mp hz)
  · rw [m2, m3]; exact h5
/-- what a longer list is -/
def AFp (env : Ev) (w v : St) (i b : Nat) : Prop :=
  v.2 = (uN w.2.1 3 i 0 (gN w.2.1 3 i 0 + 1), w.2.2) ∧ (∀ k j, k ≠ 3 → ((k, j) ∈ sK v ↔ (k, j) ∈ sK w)) ∧ (∀ k j, k ≠ 3 → sA v k j = sA w k j) ∧
  (∀ i', i' < 7 → i' ≠ i → sE v (sM v 2 i') = sE w (sM w 2 i')) ∧ (∀ j, j < gN w.2.1 3 i 0 → sE v (sM v 2 i) j = sE w (sM w 2 i) j) ∧ sE v (sM v 2 i) (gN w.2.1 3 i 0) = some b ∧ PI env v
theorem sE_adO (g : St) (i b z : Nat) : sE (adO g i b) z = up1 (sE g) (sM g 2 i) (va_up (sE g (sM g 2 i)) (gN g.2.1 3 i 0) (some b)) z := rfl
theorem AF {env : Ev} {w : St} {i b q : Nat} (hP : PI env w) (hi : i < 7) (hsz : gN w.2.1 3 i 0 ≤ 2400) : AFp env w (adF w i b q) i b := by
  obtain ⟨h1, h2, h3, h4, h5⟩ := hP
  obtain ⟨a1, a2, a3, a4⟩ := h1 i hi
  have hii := h5 i hi
  unfold adF
  by_cases hfu : gN w.2.1 3 i 0 = sM w 0 (sM w 2 i)
  · rw [if_pos hfu]
    have e2 : (gr w i q).2 = w.2 := gr_2u w i q
    have eN : (gr w i q).2.1 = w.2.1 := by rw [e2]
    have eM : ∀ f z, sM (adO (gr w i q) i b) f z = sM (gr w i q) f z := fun _ _ => rfl
    have eK : sK (adO (gr w i q) i b) = sK w ++ [(3, sM w 3 0)] := gr_K
    have eA : ∀ k j, sA (adO (gr w i q) i b) k j = sA (gr w i q) k j := fun _ _ => rfl
    have hg : gCap w i ≤ 4096 ∧ gN w.2.1 3 i 0 + 1 ≤ gCap w i := by unfold gCap; split <;> omega
    have e3 : ∀ i', gN (adO (gr w i q) i b).2.1 3 i' 0 = if i' = i then gN w.2.1 3 i 0 + 1 else gN w.2.1 3 i' 0 := by
      intro i'
      show gN (uN (gr w i q).2.1 3 i 0 (gN (gr w i q).2.1 3 i 0 + 1)) 3 i' 0 = _
      rw [eN, gN_uN]; simp
    refine ⟨?_, ?_, ?_, ?_, ?_, ?_, ?_, ?_, ?_, ?_, ?_⟩
    · show (uN (gr w i q).2.1 3 i 0 (gN (gr w i q).2.1 3 i 0 + 1), (gr w i q).2.2) = _
      rw [e2]
    · intro k j hk
      rw [eK]; simp [hk]
    · intro k j hk
      rw [eA]; exact gr_A (fun z => hk z.1)
    · intro i' h' hne
      have := h5 i' h'
      rw [eM, gr_M2 hne, sE_adO, gr_2]
      unfold up1; rw [if_neg (by omega)]
      exact gr_Eo (by omega)
    · intro j hj
      rw [eM, sE_adO]; unfold up1; rw [if_pos rfl]; unfold va_up
      rw [eN, if_neg (by omega)]
      exact gr_E (by omega) (by omega)
    · rw [eM, sE_adO]; unfold up1; rw [if_pos rfl]; unfold va_up
      rw [eN, if_pos rfl]
    · intro i' h'
      rw [e3, eM, eM]
      by_cases hne : i' = i
      · subst hne
        rw [if_pos rfl, gr_cap]
        refine ⟨hg.2, hg.1, fun _ => ?_, fun z => absurd z (by omega)⟩
        rw [eK, gr_2]; exact List.mem_append_right _ (List.mem_singleton.mpr rfl)
      · have b5 := h5 i' h'
        obtain ⟨b1, b2, b3, b4⟩ := h1 i' h'
        rw [if_neg hne, gr_M2 hne, gr_M (by omega)]
        refine ⟨b1, b2, fun z => ?_, fun z => ?_⟩
        · rw [eK]; exact List.mem_append_left _ (b3 z)
        · rw [eA, gr_A (fun y => by omega)]; exact b4 z
    · intro i1 i2 g1 g2 hp he
      rw [eM, eM] at hp
      rw [eM, eM] at he
      have c1 := h5 i1 g1
      have c2 := h5 i2 g2
      by_cases z1 : i1 = i
      · by_cases z2 : i2 = i
        · rw [z1, z2]
        · exfalso; rw [z1, gr_2, gr_M2 z2] at he; omega
      · by_cases z2 : i2 = i
        · exfalso; rw [z2, gr_2, gr_M2 z1] at he; omega
        · rw [gr_M2 z1, gr_M2 z2] at he
          rw [gr_M2 z1, gr_M (by omega)] at hp
          exact h2 i1 i2 g1 g2 hp he
    · intro z hz
      rw [eM, gr_M3]
      rw [eK] at hz
      rcases List.mem_append.mp hz with y | y
      · have := h3 z y; omega
      · simp at y; omega
    · intro z hz
      rw [eK] at hz
      rcases List.mem_append.mp hz with y | y
      · exact h4 z y
      · simp at y
    · intro i' h'
      rw [eM, eM, gr_M3]
      by_cases z : i' = i
      · rw [z, gr_2]; omega
      · rw [gr_M2 z]; have := h5 i' h'; omega
  · rw [if_neg hfu]
    have e3 : ∀ i', gN (adO w i b).2.1 3 i' 0 = if i' = i then gN w.2.1 3 i 0 + 1 else gN w.2.1 3 i' 0 := by
      intro i'
      show gN (uN w.2.1 3 i 0 (gN w.2.1 3 i 0 + 1)) 3 i' 0 = _
      rw [gN_uN]; simp
    refine ⟨rfl, fun _ _ _ => Iff.rfl, fun _ _ _ => rfl, ?_, ?_, ?_, ?_, h2, h3, h4, h5⟩
    · intro i' h' hne
      show sE (adO w i b) (sM w 2 i') = _
      rw [sE_adO]; unfold up1; rw [if_neg (fun z => hne (h2 i i' hi h' (by omega) z.symm).symm)]
    · intro j hj
      show sE (adO w i b) (sM w 2 i) j = _
      rw [sE_adO]; unfold up1; rw [if_pos rfl]; unfold va_up; rw [if_neg (by omega)]
    · show sE (adO w i b) (sM w 2 i) _ = _
      rw [sE_adO]; unfold up1; rw [if_pos rfl]; unfold va_up; rw [if_pos rfl]
    · intro i' h'
      rw [e3]
      obtain ⟨b1, b2, b3, b4⟩ := h1 i' h'
      refine ⟨?_, b2, b3, b4⟩
      show _ ≤ sM w 0 (sM w 2 i')
      split
      · subst_vars; omega
      · exact b1
/-- what the list's own add asks -/
theorem PI.add {env : Ev} {u : St} {i : Nat} (h : PI env u) (hi : i < 7) : (3, sM u 3 0) ∉ sK u ∧ (∀ i, (2, i) ∈ sK u → sM u 2 i ≠ sM u 3 0) ∧ (0 < sM u 0 (sM u 2 i) → (3, sM u 2 i) ∈ sK u) ∧ (sM u 0 (sM u 2 i) = 0 → sA u 3 (sM u 2 i) = env.2.2.1) ∧ gN u.2.1 3 i 0 ≤ sM u 0 (sM u 2 i) ∧ sM u 0 (sM u 2 i) ≤ 4096 := by
  obtain ⟨h1, h2, h3, h4, h5⟩ := h
  obtain ⟨a1, a2, a3, a4⟩ := h1 i hi
  exact ⟨fun z => by have := h3 _ z; omega, fun j hj => by have := h5 j (h4 j hj); omega, a3, a4, a1, a2⟩
def Kp (u v : St) : Prop := ∀ k i, k ≠ 3 → (k, i) ∈ sK u → (k, i) ∈ sK v ∧ sA v k i = sA u k i
theorem Kp.at {u v : St} {k i a : Nat} (h : Kp u v) (hk : k ≠ 3) (ha : At u k i a) : At v k i a := ⟨(h k i hk ha.1).1, (h k i hk ha.1).2.trans ha.2⟩
theorem Kp.rf (u : St) : Kp u u := fun _ _ _ h => ⟨h, rfl⟩
theorem Kp.tr {u v w : St} (h1 : Kp u v) (h2 : Kp v w) : Kp u w := fun k i hk h => ⟨(h2 k i hk (h1 k i hk h).1).1, (h2 k i hk (h1 k i hk h).1).2.trans (h1 k i hk h).2⟩
def SX (u : St) : Prop := (∀ q, (14, q) ∈ sK u → q < gN u.2.1 32 0 0) ∧ (∀ k t, 8 < k → k < 14 → (k, t) ∈ sK u → t < gN u.2.1 3 1 0)
def SZ (env : Ev) (u : St) : Prop := SI env u ∧ SX u
theorem SI.objs {env : Ev} {u : St} (h : SI env u) {i : Nat} (hi : i < 7) : ∀ j y, j < gN u.2.1 3 i 0 → sE u (sM u 2 i) j = some y → Obj u y := by
  intro j y hj hy
  match i, hi with
  | 0, _ => rw [h.e0 hj] at hy; cases hy; exact ⟨4, j, Or.inl rfl, h.k4 hj, rfl⟩
  | 1, _ => rw [h.e1 hj] at hy; cases hy; exact ⟨8, j, Or.inr (Or.inl rfl), h.k8 hj, rfl⟩
  | 2, _ => rw [h.e2 hj] at hy; cases hy; exact ⟨14, _, Or.inr (Or.inr rfl), h.k14 hj, rfl⟩
  | n + 3, hn =>
    have e : n + 3 = 3 + n := by omega
    rw [e] at hj hy
    rw [h.e3 (by omega) hj] at hy; cases hy; exact ⟨8, _, Or.inr (Or.inl rfl), h.k8 (h.o3 (by omega) hj), rfl⟩
theorem Obj.kp {u v : St} {y : Nat} (h : Kp u v) (ho : Obj u y) : Obj v y := by
  obtain ⟨k, i, hk, ha⟩ := ho
  exact ⟨k, i, hk, h.at (by omega) ha⟩
/-! messages -/
def gM (c : Lg) (q x f t o : Nat) : Lg := uN (uN (uN (uN c 21 q 0 x) 22 q 0 f) 23 q 0 t) 24 q 0 o
def mkM (u : St) (a q x f t o : Nat) : St := ((sK u ++ [(14, q)], up2 (sA u) 14 q a, sM u, sE u), gM u.2.1 q x f t o, u.2.2)
def cPq (c : Lg) (x f t o : Nat) : Lg := uN (uN (gM c (gN c 32 0 0) x f t o) 31 0 (gN c 3 2 0) (gN c 32 0 0)) 32 0 0 (gN c 32 0 0 + 1)
def cPost (c : Lg) (x f t o : Nat) : Lg := uN (cPq c x f t o) 3 2 0 (gN c 3 2 0 + 1)
def mkP (u : St) (a x f t o : Nat) : St := ((sK u ++ [(14, gN u.2.1 32 0 0)], up2 (sA u) 14 (gN u.2.1 32 0 0) a, sM u, sE u), cPq u.2.1 x f t o, u.2.2)
theorem cPost_N (c : Lg) (x f t o : Nat) {n : Nat} (h : n ≠ 3 ∧ n ≠ 21 ∧ n ≠ 22 ∧ n ≠ 23 ∧ n ≠ 24 ∧ n ≠ 31 ∧ n ≠ 32) : gN (cPost c x f t o) n = gN c n := by
  obtain ⟨h1, h2, h3, h4, h5, h6, h7⟩ := h
  unfold cPost cPq gM
  rw [gN_f _ _ _ _ _ h1, gN_f _ _ _ _ _ h7, gN_f _ _ _ _ _ h6, gN_f _ _ _ _ _ h5, gN_f _ _ _ _ _ h4, gN_f _ _ _ _ _ h3, gN_f _ _ _ _ _ h2]
theorem cPq_N (c : Lg) (x f t o : Nat) {n : Nat} (h : n ≠ 21 ∧ n ≠ 22 ∧ n ≠ 23 ∧ n ≠ 24 ∧ n ≠ 31 ∧ n ≠ 32) : gN (cPq c x f t o) n = gN c n := by
  obtain ⟨h2, h3, h4, h5, h6, h7⟩ := h
  unfold cPq gM
  rw [gN_f _ _ _ _ _ h7, gN_f _ _ _ _ _ h6, gN_f _ _ _ _ _ h5, gN_f _ _ _ _ _ h4, gN_f _ _ _ _ _ h3, gN_f _ _ _ _ _ h2]
set_option maxHeartbeats 1000000 in
theorem cn_mkM (env : Ev) (u : St) (a q x f t o : Nat) (h : (14, q) ∉ sK u) : ∀ k' i', (k', i') ∈ sK u → sA (mkM u a q x f t o) k' i' = sA u k' i' ∧ cn env (mkM u a q x f t o) k' i' = cn env u k' i' := by
  intro k' i' hk
  refine ⟨?_, ?_⟩
  · show up2 (sA u) 14 q a k' i' = _
    unfold up2
    by_cases z : k' = 14
    · subst z; simp; intro hz; exact absurd (hz ▸ hk) h
    · rw [if_neg z]
  · match k' with
    | 14 =>
      have hz : i' ≠ q := fun z => h (z ▸ hk)
      have e : ∀ n, gN (gM u.2.1 q x f t o) n i' 0 = gN u.2.1 n i' 0 := by intro n; unfold gM; simp [gN_uN, hz]
      rw [cn_14, cn_14]
      show (.inr (1, [.int (nI (gN (gM u.2.1 q x f t o) 21 i' 0)), .ref (sA u 5 (gN (gM u.2.1 q x f t o) 22 i' 0)), .ref (sA u 5 (gN (gM u.2.1 q x f t o) 23 i' 0)), .ref (sA u 8 (gN (gM u.2.1 q x f t o) 24 i' 0))]) : va_E) = _
      rw [e, e, e, e]
    | 0 => rfl
    | 1 => rfl
    | 2 => rfl
    | 3 => rfl
    | 4 => rfl
    | 5 => rfl
    | 6 => rfl
    | 7 => rfl
    | 8 => rfl
    | 9 => rfl
    | 10 => rfl
    | 11 => rfl
    | 12 => rfl
    | 13 => rfl
    | 15 => rfl
    | 16 => rfl
    | 17 => rfl
    | 18 => rfl
    | 19 => rfl
    | 20 => rfl
    | 21 => rfl
    | 22 => rfl
    | 23 => rfl
    | 24 => rfl
    | 25 => rfl
    | 26 => rfl
    | 27 => rfl
    | 28 => rfl
    | 29 => rfl
    | 30 => rfl
    | 31 => rfl
    | 32 => rfl
    | 33 => rfl
    | 34 => rfl
    | 35 => rfl
    | 36 => rfl
    | 37 => rfl
    | 38 => rfl
    | 39 => rfl
    | 40 => rfl
    | 41 => rfl
    | 42 => rfl
    | 43 => rfl
    | 44 => rfl
    | 45 => rfl
    | 46 => rfl
    | 47 => rfl
    | _ + 48 => rfl
theorem cn_mkM_new (env : Ev) (u : St) (a q x f t o : Nat) : cn env (mkM u a q x f t o) 14 q = .inr (1, [.int (nI x), .ref (sA u 5 f), .ref (sA u 5 t), .ref (sA u 8 o)]) := by
  rw [cn_14]
  show (.inr (1, [.int (nI (gN (gM u.2.1 q x f t o) 21 q 0)), .ref (sA u 5 (gN (gM u.2.1 q x f t o) 22 q 0)), .ref (sA u 5 (gN (gM u.2.1 q x f t o) 23 q 0)), .ref (sA u 8 (gN (gM u.2.1 q x f t o) 24 q 0))]) : va_E) = _
  unfold gM; simp [gN_uN]
theorem mkM_A (u : St) (a q x f t o : Nat) : sA (mkM u a q x f t o) 14 q = a := by
  show up2 (sA u) 14 q a 14 q = a
  unfold up2; simp
theorem mkP_ph (u : St) (a x f t o : Nat) : (mkP u a x f t o).1 = (mkM u a (gN u.2.1 32 0 0) x f t o).1 := rfl
set_option maxHeartbeats 1000000 in
theorem cn_gh (env : Ev) (u : St) (g : Lg) (hN : ∀ f, f < 30 → gN g f = gN u.2.1 f) (hr : g.2 = u.2.1.2) : ∀ k' i', cn env (wC u g) k' i' = cn env u k' i' := by
  intro k' i'
  obtain ⟨u1, ⟨cN, cR⟩, m⟩ := u
  obtain ⟨g1, g2⟩ := g
  have hr : g2 = cR := hr
  subst hr
  have e0 : g1 0 = cN 0 := hN 0 (by decide)
  have e1 : g1 1 = cN 1 := hN 1 (by decide)
  have e3 : g1 3 = cN 3 := hN 3 (by decide)
  have e6 : g1 6 = cN 6 := hN 6 (by decide)
  have e9 : g1 9 = cN 9 := hN 9 (by decide)
  have e15 : g1 15 = cN 15 := hN 15 (by decide)
  have e16 : g1 16 = cN 16 := hN 16 (by decide)
  have e17 : g1 17 = cN 17 := hN 17 (by decide)
  have e18 : g1 18 = cN 18 := hN 18 (by decide)
  have e19 : g1 19 = cN 19 := hN 19 (by decide)
  have e20 : g1 20 = cN 20 := hN 20 (by decide)
  have e21 : g1 21 = cN 21 := hN 21 (by decide)
  have e22 : g1 22 = cN 22 := hN 22 (by decide)
  have e23 : g1 23 = cN 23 := hN 23 (by decide)
  have e24 : g1 24 = cN 24 := hN 24 (by decide)
  have e25 : g1 25 = cN 25 := hN 25 (by decide)
  have e26 : g1 26 = cN 26 := hN 26 (by decide)
  match k' with
  | 0 => simp [cn, wC, gN, sA, sM, gB, e0, e1]
  | 1 => rfl
  | 2 => simp [cn, wC, gN, sA, sM, gB, e3]
  | 3 => rfl
  | 4 => simp [cn, wC, gN, sA, sM, gB, e25]
  | 5 => rfl
  | 6 => simp [cn, wC, gN, sA, sM, gB, e6]
  | 7 => rfl
  | 8 => simp [cn, wC, gN, sA, sM, gB, e26, e15, e16, e17, e18, e19, e20]
  | 9 => simp [cn, wC, gN, sA, sM, gB, e9]
  | 10 => rfl
  | 11 => rfl
  | 12 => rfl
  | 13 => rfl
  | 14 => simp [cn, wC, gN, sA, sM, gB, e21, e22, e23, e24]
  | 15 => rfl
  | 16 => rfl
  | 17 => rfl
  | 18 => rfl
  | 19 => rfl
  | 20 => rfl
  | 21 => rfl
  | 22 => rfl
  | 23 => rfl
  | 24 => rfl
  | 25 => rfl
  | 26 => rfl
  | 27 => rfl
  | 28 => rfl
  | 29 => rfl
  | 30 => rfl
  | 31 => rfl
  | 32 => rfl
  | 33 => rfl
  | 34 => rfl
  | 35 => rfl
  | 36 => rfl
  | 37 => rfl
  | 38 => rfl
  | 39 => rfl
  | 40 => rfl
  | 41 => rfl
  | 42 => rfl
  | 43 => rfl
  | 44 => rfl
  | 45 => rfl
  | 46 => rfl
  | 47 => rfl
  | _ + 48 => rfl

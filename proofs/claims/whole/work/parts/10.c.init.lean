theorem cn_K0 {env : Ev} {u : St} {a : Nat} (h : (0, 0) ∉ sK u) : ∀ k' i', (k', i') ∈ sK u → sA (mkK u 0 0 a) k' i' = sA u k' i' ∧ cn env (mkK u 0 0 a) k' i' = cn env u k' i' := by
  intro k' i' hm
  refine ⟨mkK_o ?_, ?_⟩
  · by_cases z : k' = 0
    · subst z; exact Or.inr (fun y => h (y ▸ hm))
    · exact Or.inl z
  · match k' with
    | 0 => rfl
    | 1 => rfl
    | 2 => rfl
    | 3 => rfl
    | 4 => rfl
    | 5 => rfl
    | 6 => rfl
    | 7 => rfl
    | 8 => rfl
    | 9 => rfl
    | 10 => rfl
    | 11 => rfl
    | 12 => rfl
    | 13 => rfl
    | 14 => rfl
    | 15 => rfl
    | 16 => rfl
    | 17 => rfl
    | 18 => rfl
    | 19 => rfl
    | 20 => rfl
    | 21 => rfl
    | 22 => rfl
    | 23 => rfl
    | 24 => rfl
    | 25 => rfl
    | 26 => rfl
    | 27 => rfl
    | 28 => rfl
    | 29 => rfl
    | 30 => rfl
    | 31 => rfl
    | 32 => rfl
    | 33 => rfl
    | 34 => rfl
    | 35 => rfl
    | 36 => rfl
    | 37 => rfl
    | 38 => rfl
    | 39 => rfl
    | 40 => rfl
    | 41 => rfl
    | 42 => rfl
    | 43 => rfl
    | 44 => rfl
    | 45 => rfl
    | 46 => rfl
    | 47 => rfl
    | _ + 48 => rfl
theorem SZ.start {env : Ev} {u : St} (hk : ∀ k i, (k, i) ∈ sK u ↔ (k = 0 ∧ i = 0) ∨ (k = 1 ∧ i = 0) ∨ (k = 2 ∧ i < 7) ∨ ((k = 5 ∨ k = 6 ∨ k = 7) ∧ i < 4)) (hM : sM u = fun f i => if f = 3 ∧ i = 0 then 1 else 0) (hA : sA u 3 0 = env.2.2.1) (hN : gN u.2.1 = gN c00) : SZ env u := by
  have n3 : ∀ i, gN u.2.1 3 i 0 = 0 := by intro i; rw [hN]; rfl
  have n32 : gN u.2.1 32 0 0 = 0 := by rw [hN]; rfl
  have n0 : gN u.2.1 0 0 0 = 3 := by rw [hN]; rfl
  have m2 : ∀ i, sM u 2 i = 0 := by intro i; rw [hM]; simp
  have m0 : ∀ i, sM u 0 i = 0 := by intro i; rw [hM]; simp
  have m3 : sM u 3 0 = 1 := by rw [hM]; simp
  have no : ∀ k i, (k = 3 ∨ k = 4 ∨ 7 < k) → (k, i) ∉ sK u := fun k i h z => by have := (hk k i).mp z; omega
  refine ⟨⟨⟨(hk _ _).mpr (by omega), (hk _ _).mpr (by omega), fun i hi => (hk _ _).mpr (by omega), fun i hi => ⟨(hk _ _).mpr (by omega), (hk _ _).mpr (by omega), (hk _ _).mpr (by omega)⟩⟩, ⟨?_, ?_, ?_⟩, ⟨?_, ?_, ?_⟩, ?_, ⟨?_, ?_, ?_, ?_⟩, ⟨?_, ?_, ?_, ?_, ?_⟩, ?_⟩, ?_, ?_⟩
  · intro k h; rw [n3] at h; omega
  · intro k h; exact absurd h (no _ _ (by omega))
  · rw [n3]; omega
  · intro k h; rw [n3] at h; omega
  · intro k h; exact absurd h (no _ _ (by omega))
  · rw [n3]; omega
  · intro k h; exact absurd h (no _ _ (by omega))
  · intro k h; rw [n3] at h; omega
  · intro k h; rw [n3] at h; omega
  · intro k h; rw [n3] at h; omega
  · intro w hw k h; rw [n3] at h; omega
  · intro i hi; rw [n3, m0, m2]; exact ⟨by omega, by omega, fun h => by omega, fun _ => hA⟩
  · intro i j hi hj h; rw [m0] at h; omega
  · intro z h; exact absurd h (no _ _ (by omega))
  · intro i h; have := (hk _ _).mp h; omega
  · intro i hi; rw [m2, m3]; omega
  · rw [n0]; omega
  · intro q h; exact absurd h (no _ _ (by omega))
  · intro k t h1 h2 h; exact absurd h (no _ _ (by omega))
theorem SZ.m {env : Ev} {ph : Ph} {c m m' : Lg} (h : SZ env (ph, c, m)) : SZ env (ph, c, m') := h
theorem SZ.k20 {env : Ev} {u : St} {k a : Nat} (hZ : SZ env u) (hk : 20 ≤ k) : SZ env (mkK u k 0 a) := by
  obtain ⟨hI, hX⟩ := hZ
  have hm : ∀ k' i, k' < 20 → ((k', i) ∈ sK (mkK u k 0 a) ↔ (k', i) ∈ sK u) := by
    intro k' i h; rw [mkK_m]
    constructor
    · rintro (y | y)
      · exact y
      · omega
    · exact Or.inl
  have hA : ∀ k', k' < 20 → sA (mkK u k 0 a) k' = sA u k' := fun k' h => mkK_k (by omega)
  refine ⟨⟨⟨(hm _ _ (by decide)).mpr hI.k0, (hm _ _ (by decide)).mpr hI.k1, fun i hi => (hm _ _ (by decide)).mpr (hI.k2 hi), fun i hi => ⟨(hm _ _ (by decide)).mpr (hI.k5 hi), (hm _ _ (by decide)).mpr (hI.k6 hi), (hm _ _ (by decide)).mpr (hI.k7 hi)⟩⟩, ⟨?_, ?_, hI.nth⟩, ⟨?_, ?_, hI.ntx⟩, ?_, ⟨?_, ?_, ?_, ?_⟩, ⟨?_, ?_, ?_, ?_, ?_⟩, hI.nst⟩, ?_, ?_⟩
  · intro k h; exact (hm _ _ (by decide)).mpr (hI.k4 h)
  · intro k h; exact hI.th ((hm _ _ (by decide)).mp h)
  · intro k h; exact (hm _ _ (by decide)).mpr (hI.k8 h)
  · intro k h
    have h := (hm _ _ (by decide)).mp h
    exact ⟨(hI.tx h).1, (hI.tx h).2, (hm _ _ (by decide)).mpr (hI.k9 h), (hm _ _ (by decide)).mpr (hI.k10 h), (hm _ _ (by decide)).mpr (hI.k11 h), (hm _ _ (by decide)).mpr (hI.k12 h), (hm _ _ (by decide)).mpr (hI.k13 h)⟩
  · intro q h; exact hI.ms ((hm _ _ (by decide)).mp h)
  · intro j h; rw [hA 4 (by decide)]; exact hI.e0 h
  · intro j h; rw [hA 8 (by decide)]; exact hI.e1 h
  · intro j h; rw [hA 14 (by decide)]; exact ⟨hI.e2 h, (hm _ _ (by decide)).mpr (hI.k14 h)⟩
  · intro w hw j h; rw [hA 8 (by decide)]; exact ⟨hI.e3 hw h, hI.o3 hw h⟩
  · intro i hi
    rw [hA 3 (by decide)]
    have := hI.pi.1 i hi
    exact ⟨this.1, this.2.1, fun h => (hm _ _ (by decide)).mpr (this.2.2.1 h), this.2.2.2⟩
  · exact hI.pi.2.1
  · intro z h; exact hI.pi.2.2.1 z ((hm _ _ (by decide)).mp h)
  · intro z h; exact hI.pi.2.2.2.1 z ((hm _ _ (by decide)).mp h)
  · exact hI.pi.2.2.2.2
  · intro q h; exact hX.1 q ((hm _ _ (by decide)).mp h)
  · intro k t h1 h2 h; exact hX.2 k t h1 h2 ((hm _ _ (by omega)).mp h)
def m01 : Lg := uN (uN m00 50 0 0 3) 51 0 0 1
def mFill (m : Lg) : Nat → Lg
  | 0 => m
  | k + 1 => uI (mFill m k) 71 0 k (-4)
theorem mFill_s (m : Lg) (k : Nat) : mFill m (k + 1) = uI (mFill m k) 71 0 k (-4) := rfl
theorem mFill_N (m : Lg) : ∀ k, gN (mFill m k) = gN m
  | 0 => rfl
  | k + 1 => mFill_N m k
theorem mFill_B (m : Lg) : ∀ k, gB (mFill m k) = gB m
  | 0 => rfl
  | k + 1 => mFill_B m k
theorem mFill_J (m : Lg) : ∀ k, gJ (mFill m k) = gJ m
  | 0 => rfl
  | k + 1 => mFill_J m k
theorem mFill_I (m : Lg) (j : Nat) : ∀ k, gI (mFill m k) 71 0 j = if j < k then -4 else gI m 71 0 j
  | 0 => by simp [mFill]
  | k + 1 => by
    rw [mFill_s]
    show up3 (gI (mFill m k)) 71 0 k (-4) 71 0 j = _
    unfold up3; rw [if_pos rfl]
    show (if (0 : Nat) = 0 ∧ j = k then -4 else gI (mFill m k) 71 0 j) = _
    rw [mFill_I m j k]
    by_cases y : j = k
    · rw [if_pos ⟨rfl, y⟩, if_pos (by omega)]
    · rw [if_neg (fun h => y h.2)]
      by_cases q : j < k
      · rw [if_pos q, if_pos (by omega)]
      · rw [if_neg q, if_neg (by omega)]
def mInit : Lg := mFill m01 48
theorem m01_V : MV m01 := by
  refine ⟨fun j => ?_, fun j => ?_, fun j => ?_, fun j => ?_, fun j => ?_, fun j => ?_, ?_, ?_, ?_, ?_⟩
  all_goals first | exact Nat.le_of_ble_eq_true rfl | (show (0 : Nat) < _; decide)
theorem m01_Nb : Nb m01 := Nb.uN (Nb.uN (fun _ _ _ => by show (0 : Nat) < _; decide) (by decide)) (by decide)
theorem cInit_N : gN cInit = gN c00 := by unfold cInit; rw [cFill_N, cFill_N, cFill_N, cFill_N]
theorem cInit_Nb : Nb cInit := Nb.ofN cInit_N (Nb.uN (Nb.uN (fun _ _ _ => by show (0 : Nat) < _; decide) (by decide)) (by decide))
theorem cFill_I2 {c : Lg} {w : Nat} {x : Int32} {v j : Nat} (h : v ≠ w) (k : Nat) : gI (cFill c w x k) 7 v j = gI c 7 v j := by rw [cFill_I, if_neg (fun z => h z.1)]


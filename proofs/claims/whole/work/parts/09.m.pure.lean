/-! things, transactions, sites: as functions of the class's store -/
def cthing (c : Lg) (v : Int32) (b : Bool) : Int32 × Lg := match ix v (gN c 0 0 0) with
  | none => (-1, c)
  | some w => if gN c 3 0 0 < 12 then (nI (gN c 3 0 0), cTh c w b) else (-3, c)
def cbegin (c : Lg) (v : Int32) : Int32 × Lg := match ix v (gN c 0 0 0) with
  | none => (-1, c)
  | some w => if gN c 3 1 0 < 150 then (nI (gN c 3 1 0), cBeg c w) else (-3, c)
theorem kc_th (c : Lg) (w : Nat) (b : Bool) : kc (cTh c w b) = kc c + 2 ∧ ks (cTh c w b) = ks c + 100 := by
  have e3 : gN (gTh c (gN c 3 0 0) w b) 3 = gN c 3 := gTh_N _ _ _ _ (by decide)
  have e32 : gN (cTh c w b) 32 = gN c 32 := by unfold cTh; rw [gN_f _ _ _ _ _ (by decide), gTh_N _ _ _ _ (by decide)]
  have h3 : ∀ i, gN (cTh c w b) 3 i 0 = if i = 0 then gN c 3 0 0 + 1 else gN c 3 i 0 := by intro i; unfold cTh; rw [gN_uN, e3]; simp
  unfold kc ks; rw [e32]; simp only [h3]; simp; omega
theorem kc_beg (c : Lg) (w : Nat) : kc (cBeg c w) = kc c + 8 ∧ ks (cBeg c w) = ks c + 500 := by
  have e3 : gN (cTx c (gN c 3 1 0) w) 3 = gN c 3 := cTx_N _ _ _ (by decide)
  have e32 : gN (cBeg c w) 32 = gN c 32 := by unfold cBeg; rw [gN_f _ _ _ _ _ (by decide), cTx_N _ _ _ (by decide)]
  have h3 : ∀ i, gN (cBeg c w) 3 i 0 = if i = 1 then gN c 3 1 0 + 1 else gN c 3 i 0 := by intro i; unfold cBeg; rw [gN_uN, e3]; simp
  unfold kc ks; rw [e32]; simp only [h3]; simp; omega
theorem nb_th {c : Lg} {w : Nat} {b : Bool} (h : Nb c) (hw : w < 4) (hn : gN c 3 0 0 ≤ 12) : Nb (cTh c w b) := Nb.uN (Nb.uB (Nb.uN h (by omega))) (by omega)
theorem nb_beg {c : Lg} {w : Nat} (h : Nb c) (hw : w < 4) (hn : gN c 3 1 0 ≤ 150) : Nb (cBeg c w) := by
  refine Nb.uN ?_ (by omega)
  intro f i j
  by_cases h9 : f = 9
  · subst h9; rw [cTx_9]; split <;> exact h _ _ _
  · by_cases h26 : f = 26
    · subst h26; rw [cTx_26]; split
      · omega
      · exact h _ _ _
    · rw [cTx_N _ _ _ ⟨h9, h26⟩]; exact h _ _ _
theorem cs_1 {c : Lg} {v1 v2 : Int32} (h : v1 < nI 2) : csites c v1 v2 = (-1, c) := by
  unfold csites
  rcases hx : ix v1 5 with _ | a
  · rfl
  · obtain ⟨ha, rfl⟩ := ix_some (by decide) hx
    have : a < 2 := (nI_ltI (by omega) (by decide)).mp h
    simp [this]
theorem cs_2 {c : Lg} {v1 v2 : Int32} (h : nI 4 < v1) : csites c v1 v2 = (-1, c) := by
  unfold csites
  rcases hx : ix v1 5 with _ | a
  · rfl
  · obtain ⟨ha, rfl⟩ := ix_some (by decide) hx
    have : 4 < a := (nI_ltI (by decide) (by omega)).mp h
    omega
theorem cs_3 {c : Lg} {v1 v2 : Int32} (h : v2 < 0) : csites c v1 v2 = (-1, c) := by
  unfold csites
  rcases hx : ix v1 5 with _ | a
  · rfl
  · simp [ix_lt h]
theorem inr_24 {v : Int32} (h0 : ¬ v < nI 2) (h1 : ¬ nI 4 < v) : ∃ a : Nat, a < 5 ∧ 2 ≤ a ∧ v = nI a := by
  have e0 : (nI 2).toInt = 2 := by decide
  have e1 : (nI 4).toInt = 4 := by decide
  rw [Int32.lt_iff_toInt_lt, e0] at h0
  rw [Int32.lt_iff_toInt_lt, e1] at h1
  have h5 : ix v 5 = some v.toInt.toNat := by unfold ix; rw [if_pos (by omega)]
  obtain ⟨g1, g2⟩ := ix_some (by decide) h5
  exact ⟨_, g1, by omega, g2⟩
theorem sub1_toInt {a : Nat} (h2 : 2 ≤ a) (h5 : a < 5) : (nI a - nI 1).toInt = (a : Int) - 1 := by
  have := pk_sub_toInt (a := a) (b := 1) (by omega) (by omega)
  rw [this]; rfl
theorem cs_4 {c : Lg} {a : Nat} {v2 : Int32} (h2 : 2 ≤ a) (h5 : a < 5) (h : ¬ v2 ≤ nI a - nI 1) : csites c (nI a) v2 = (-1, c) := by
  unfold csites
  rw [ix_nI (by decide) h5]
  have : ix v2 a = none := by
    unfold ix; rw [if_neg]
    rintro ⟨g0, g1⟩; apply h
    rw [Int32.le_iff_toInt_le, sub1_toInt h2 h5]; omega
  simp [this]
theorem in_b {a : Nat} {v2 : Int32} (h2 : 2 ≤ a) (h5 : a < 5) (h0 : ¬ v2 < 0) (h : v2 ≤ nI a - nI 1) : ∃ b : Nat, b < a ∧ v2 = nI b := by
  rw [Int32.le_iff_toInt_le, sub1_toInt h2 h5] at h
  have e0 : (0 : Int32).toInt = 0 := by decide
  rw [Int32.lt_iff_toInt_lt, e0] at h0
  have hx : ix v2 a = some v2.toInt.toNat := by unfold ix; rw [if_pos (by omega)]
  obtain ⟨g1, g2⟩ := ix_some (by omega) hx
  exact ⟨_, g1, g2⟩
theorem cs_5 {c : Lg} {a b : Nat} (h2 : 2 ≤ a) (h5 : a < 5) (hb : b < a) : csites c (nI a) (nI b) = if 0 < gN c 3 0 0 ∨ 0 < gN c 3 1 0 then (-2, c) else (nI 1, uN (uN c 0 0 0 a) 1 0 0 b) := by
  unfold csites
  rw [ix_nI (by decide) h5]
  simp only [if_neg (show ¬ a < 2 by omega), ix_nI (show a < 2 ^ 31 by omega) hb]

/-- the model's keys live -/
def MI (u : St) : Prop := ∀ k, k ∈ [20, 24, 25, 27, 28, 29, 30, 31, 32, 33, 34, 35, 36, 37, 38, 39, 40, 41, 42, 44, 45, 46, 47] → (k, 0) ∈ sK u
/-- the model's numbers lie in their ranges -/
def MV (m : Lg) : Prop := (∀ j, gN m 56 0 j < 4) ∧ (∀ j, gN m 69 0 j < 150) ∧ (∀ j, gN m 70 0 j ≤ 150) ∧ (∀ j, gN m 74 0 j < 4) ∧ (∀ j, gN m 75 0 j < 4) ∧ (∀ j, gN m 76 0 j < 150) ∧ gN m 52 0 0 ≤ 12 ∧ gN m 55 0 0 ≤ 150 ∧ gN m 72 0 0 ≤ 2400 ∧ gN m 50 0 0 ≤ 4
section MVp
variable {m : Lg}
theorem MV.site (h : MV m) (j : Nat) : gN m 56 0 j < 4 := h.1 j
theorem MV.came (h : MV m) (j : Nat) : gN m 69 0 j < 150 := h.2.1 j
theorem MV.cm (h : MV m) (j : Nat) : gN m 70 0 j ≤ 150 := h.2.2.1 j
theorem MV.to (h : MV m) (j : Nat) : gN m 74 0 j < 4 := h.2.2.2.1 j
theorem MV.fr (h : MV m) (j : Nat) : gN m 75 0 j < 4 := h.2.2.2.2.1 j
theorem MV.of (h : MV m) (j : Nat) : gN m 76 0 j < 150 := h.2.2.2.2.2.1 j
theorem MV.nth (h : MV m) : gN m 52 0 0 ≤ 12 := h.2.2.2.2.2.2.1
theorem MV.ntx (h : MV m) : gN m 55 0 0 ≤ 150 := h.2.2.2.2.2.2.2.1
theorem MV.nms (h : MV m) : gN m 72 0 0 ≤ 2400 := h.2.2.2.2.2.2.2.2.1
theorem MV.nst (h : MV m) : gN m 50 0 0 ≤ 4 := h.2.2.2.2.2.2.2.2.2
end MVp
/-! the reference, read as functions -/
def mHas (m : Lg) (t o : Nat) : Bool := decide (0 < gN m 59 0 o) && decide (gN m 59 0 o ≤ gN m 58 0 (4 * t + gN m 56 0 o))
def mCame (m : Lg) (s i : Nat) : Nat := gN m 69 0 (150 * s + i)
def mFreeQ (m : Lg) (t k s i : Nat) : Bool := !gB m 64 0 (12 * mCame m s i + k) || mHas m t (mCame m s i)
def mIsFree (m : Lg) (t k s : Nat) : Bool := decide (gI m 71 0 (12 * s + k) = -4) && allN (mFreeQ m t k s) (gN m 70 0 s)
def mAFQ (m : Lg) (t s k : Nat) : Bool := !gB m 64 0 (12 * t + k) || (!decide (gN m 53 0 k = s) || mIsFree m t k s)
def mAreFree (m : Lg) (t s : Nat) : Bool := allN (mAFQ m t s) (gN m 52 0 0)
def mPlain (m : Lg) (t : Nat) : Nat := cntN (fun i => gB m 64 0 (12 * t + i)) (gN m 52 0 0)
def mWQ (m : Lg) (t s k : Nat) : Bool := gB m 64 0 (12 * t + k) && decide (gN m 53 0 k = s)
def mWritesAt (m : Lg) (t s : Nat) : Bool := anyN (mWQ m t s) (gN m 52 0 0)
def mIsSafe (m : Lg) (t : Nat) : Bool := decide (0 < gN m 59 0 t) && decide (gN m 51 0 0 ≤ gN m 60 0 t)
def mCanQ (m : Lg) (s t o : Nat) : Bool := decide (gN m 58 0 (4 * t + o) ≤ gN m 68 0 (4 * s + o))
def mCanC (m : Lg) (s t : Nat) : Bool := decide (gN m 68 0 (4 * s + gN m 56 0 t) + 1 = gN m 59 0 t) && allN (mCanQ m s t) (gN m 50 0 0)
def mCanCome (m : Lg) (i : Nat) : Bool := !decide (gN m 73 0 i = 4) || mCanC m (gN m 74 0 i) (gN m 76 0 i)
/-! long compares -/
theorem lgc_lt {x y : Int64} : lg_cmp x y < 0 ↔ x < y := by
  have e1 : (x > y) ↔ y.toInt < x.toInt := Int64.lt_iff_toInt_lt
  have e2 : (x = y) ↔ x.toInt = y.toInt := Int64.toInt_inj.symm
  rw [Int64.lt_iff_toInt_lt]
  unfold lg_cmp
  by_cases q1 : x > y
  · rw [if_pos q1]
    exact ⟨fun h => absurd h (by decide), fun h => by have := e1.mp q1; omega⟩
  · rw [if_neg q1]
    by_cases q2 : x = y
    · rw [if_pos q2]
      exact ⟨fun h => absurd h (by decide), fun h => by have := e2.mp q2; omega⟩
    · rw [if_neg q2]
      exact ⟨fun _ => by have h1 := mt e1.mpr q1; have h2 := mt e2.mpr q2; omega, fun _ => by decide⟩
theorem lgc_gt {x y : Int64} : 0 < lg_cmp x y ↔ y < x := by
  have e1 : (x > y) ↔ y.toInt < x.toInt := Int64.lt_iff_toInt_lt
  have e2 : (x = y) ↔ x.toInt = y.toInt := Int64.toInt_inj.symm
  rw [Int64.lt_iff_toInt_lt]
  unfold lg_cmp
  by_cases q1 : x > y
  · rw [if_pos q1]
    exact ⟨fun _ => e1.mp q1, fun _ => by decide⟩
  · rw [if_neg q1]
    have h1 := mt e1.mpr q1
    by_cases q2 : x = y
    · rw [if_pos q2]
      exact ⟨fun h => absurd h (by decide), fun h => absurd h h1⟩
    · rw [if_neg q2]
      exact ⟨fun h => absurd h (by decide), fun h => absurd h h1⟩
def inL (v a b : Int64) : Bool := decide (a ≤ v) && decide (v ≤ b)
theorem inL_f1 {v a b : Int64} (h : lg_cmp v a < 0) : inL v a b = false := by
  have h := lgc_lt.mp h
  rw [Int64.lt_iff_toInt_lt] at h
  have : ¬ a ≤ v := by rw [Int64.le_iff_toInt_le]; omega
  simp [inL, this]
theorem inL_f2 {v a b : Int64} (h : 0 < lg_cmp v b) : inL v a b = false := by
  have h := lgc_gt.mp h
  rw [Int64.lt_iff_toInt_lt] at h
  have : ¬ v ≤ b := by rw [Int64.le_iff_toInt_le]; omega
  simp [inL, this]
theorem inL_t {v a b : Int64} (h1 : ¬ lg_cmp v a < 0) (h2 : ¬ 0 < lg_cmp v b) : inL v a b = true := by
  have h1 : ¬ v < a := fun z => h1 (lgc_lt.mpr z)
  have h2 : ¬ b < v := fun z => h2 (lgc_gt.mpr z)
  rw [Int64.lt_iff_toInt_lt] at h1 h2
  have : a ≤ v := by rw [Int64.le_iff_toInt_le]; omega
  have : v ≤ b := by rw [Int64.le_iff_toInt_le]; omega
  simp [inL, *]
theorem i2l_toInt (v : Int32) : v.toInt64.toInt = v.toInt := by simp
theorem in_ix (v : Int32) {n : Nat} (hn : n < 1073741824) : inL v.toInt64 0 (nI n - nI 1).toInt64 = (ix v n).isSome := by
  have h1 : (nI n - nI 1).toInt = (n : Int) - 1 := by
    have := pk_sub_toInt (a := n) (b := 1) (by omega) (by omega)
    simpa using this
  have e1 : (0 ≤ v.toInt64) ↔ 0 ≤ v.toInt := by rw [Int64.le_iff_toInt_le, i2l_toInt]; simp
  have e2 : (v.toInt64 ≤ (nI n - nI 1).toInt64) ↔ v.toInt < n := by rw [Int64.le_iff_toInt_le, i2l_toInt, i2l_toInt, h1]; omega
  simp only [inL, e1, e2, ix]
  by_cases q1 : 0 ≤ v.toInt <;> by_cases q2 : v.toInt < (n : Int) <;> simp [q1, q2]
theorem in_c (v : Int32) (a b : Int64) (x y : Int) (ha : a.toInt = x) (hb : b.toInt = y) : inL v.toInt64 a b = (decide (x ≤ v.toInt) && decide (v.toInt ≤ y)) := by
  have e1 : (a ≤ v.toInt64) ↔ x ≤ v.toInt := by rw [Int64.le_iff_toInt_le, i2l_toInt, ha]
  have e2 : (v.toInt64 ≤ b) ↔ v.toInt ≤ y := by rw [Int64.le_iff_toInt_le, i2l_toInt, hb]
  simp only [inL, e1, e2]
theorem in_el (v : Int32) : inL v.toInt64 0 7 = (ix v 8).isSome := by
  rw [in_c v 0 7 0 7 rfl rfl]
  simp only [ix]
  by_cases q1 : 0 ≤ v.toInt <;> by_cases q2 : v.toInt < 8 <;> simp [q1, q2] <;> omega
theorem nI_is_sub1 {h c : Nat} (hh : h < 1073741824) (hc : c < 1073741824) : nI h = nI c - nI 1 ↔ h + 1 = c := by
  have e := pk_sub_toInt (a := c) (b := 1) (by omega) (by omega)
  constructor
  · intro z
    have z2 := congrArg Int32.toInt z
    rw [e, nI_toInt (by omega)] at z2
    omega
  · intro z
    subst z
    rw [pk_sub (by omega)]
    simp
/-- a loop upwards that writes nothing -/
theorem wloop (P : Nat → Array Slot → Prop) (G : Array Slot → Prop) (N : Nat) (step : ∀ i ls, i ≤ N → P i ls → (∀ ls', i < N → P (i + 1) ls' → G ls') → G ls) : ∀ i ls, i ≤ N → P i ls → G ls := by
  have key : ∀ d i ls, N - i < d → i ≤ N → P i ls → G ls := by
    intro d
    induction d with
    | zero => intro i ls h; omega
    | succ d ih => intro i ls hd hi hP; exact step i ls hi hP (fun ls' h1 h2 => ih (i + 1) ls' (by omega) (by omega) h2)
  exact fun i ls hi hP => key (N - i + 1) i ls (by omega) hi hP
/-- a loop downwards that writes nothing -/
theorem wloopD (P : Nat → Array Slot → Prop) (G : Array Slot → Prop) (z : ∀ ls, P 0 ls → G ls) (step : ∀ i ls, P (i + 1) ls → (∀ ls', P i ls' → G ls') → G ls) : ∀ i ls, P i ls → G ls := by
  intro i
  induction i with
  | zero => exact z
  | succ i ih => intro ls h; exact step i ls h ih
/-- a loop upwards that writes -/
theorem wloopH {σ : Type} (P : Nat → σ → Prop) (G : σ → Prop) (N : Nat) (step : ∀ i x, i ≤ N → P i x → (∀ x', i < N → P (i + 1) x' → G x') → G x) : ∀ i x, i ≤ N → P i x → G x := by
  have key : ∀ d i x, N - i < d → i ≤ N → P i x → G x := by
    intro d
    induction d with
    | zero => intro i ls h; omega
    | succ d ih => intro i x hd hi hP; exact step i x hi hP (fun x' h1 h2 => ih (i + 1) x' (by omega) (by omega) h2)
  exact fun i x hi hP => key (N - i + 1) i x (by omega) hi hP

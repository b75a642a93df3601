theorem wloopDH {σ : Type} (P : Nat → σ → Prop) (G : σ → Prop) (z : ∀ x, P 0 x → G x) (step : ∀ i x, P (i + 1) x → (∀ x', P i x' → G x') → G x) : ∀ i x, P i x → G x := by
  intro i
  induction i with
  | zero => exact z
  | succ i ih => intro x h; exact step i x h ih
theorem nI_s1 (d : Nat) : nI (d + 1) - nI 1 = nI d := by rw [pk_sub (by omega)]; simp
theorem nI_dec (d : Nat) : nI d + Int32.ofInt (-1) = nI d - nI 1 := by rw [Int32.sub_eq_add_neg]; rfl
theorem in_24 {v : Int32} (h : inL v.toInt64 2 4 = true) : ∃ a, a < 5 ∧ 2 ≤ a ∧ v = nI a := by
  rw [in_c v 2 4 2 4 rfl rfl] at h
  simp at h
  rcases pk_ix v (n := 5) (by decide) with q | q | ⟨j, q1, q2⟩
  · have := Int32.lt_iff_toInt_lt.mp q
    simp at this; omega
  · have := Int32.le_iff_toInt_le.mp q
    rw [nI_toInt (by decide)] at this; omega
  · refine ⟨j, q1, ?_, q2⟩
    rw [q2, nI_toInt (by omega)] at h; omega
theorem in_24f {v : Int32} (h : inL v.toInt64 2 4 = false) : ∀ a, ix v 5 = some a → a < 2 := by
  intro a ha
  obtain ⟨h1, rfl⟩ := ix_some (by decide) ha
  rw [in_c _ 2 4 2 4 rfl rfl, nI_toInt (by omega)] at h
  simp at h; omega
theorem in_500 (v : Int32) : inL v.toInt64 0 500 = (ix v 501).isSome := by
  rw [in_c v 0 500 0 500 rfl rfl]
  simp only [ix]
  by_cases q1 : 0 ≤ v.toInt <;> by_cases q2 : v.toInt < 501 <;> simp [q1, q2] <;> omega
def lastL (q : Nat → Bool) (val : Nat → Int64) : Nat → Int64
  | 0 => 0
  | i + 1 => if q i then val i else lastL q val i
theorem lastL_s (q : Nat → Bool) (val : Nat → Int64) (i : Nat) : lastL q val (i + 1) = if q i then val i else lastL q val i := rfl
def mRdQ (m : Lg) (t k i : Nat) : Bool := gB m 64 0 (12 * mCame m (gN m 56 0 t) i + k) && mHas m t (mCame m (gN m 56 0 t) i)
def mRdV (m : Lg) (k s i : Nat) : Int64 := gJ m 65 0 (12 * mCame m s i + k)
def mRead (m : Lg) (t k : Nat) : Int64 := if gB m 64 0 (12 * t + k) = true then gJ m 65 0 (12 * t + k) else lastL (mRdQ m t k) (mRdV m k (gN m 56 0 t)) (gN m 70 0 (gN m 56 0 t))
def mread (m : Lg) (v1 v2 : Int32) : Int64 := match ix v1 (gN m 55 0 0) with
  | none => 0
  | some t => match ix v2 (gN m 52 0 0) with
    | none => 0
    | some k => if gB m 54 0 k = true then 0 else mRead m t k
def mCtV (m : Lg) (t k e i : Nat) : Int64 := if mHas m t (mCame m (gN m 56 0 t) i) = true then gJ m 67 0 (96 * mCame m (gN m 56 0 t) i + 8 * k + e) else 0
def mcounted (m : Lg) (v1 v2 v3 : Int32) : Int64 := match ix v1 (gN m 55 0 0) with
  | none => 0
  | some t => match ix v2 (gN m 52 0 0) with
    | none => 0
    | some k => if gB m 54 0 k = true then (match ix v3 8 with
      | none => 0
      | some e => gJ m 67 0 (96 * t + 8 * k + e) + sumL (mCtV m t k e) (gN m 70 0 (gN m 56 0 t))) else 0
def mLaQ (m : Lg) (w k i : Nat) : Bool := gB m 64 0 (12 * mCame m w i + k)
def mlatest (m : Lg) (v1 v2 : Int32) : Int64 := match ix v1 (gN m 50 0 0) with
  | none => 0
  | some w => match ix v2 (gN m 52 0 0) with
    | none => 0
    | some k => if gB m 54 0 k = true then 0 else lastL (mLaQ m w k) (mRdV m k w) (gN m 70 0 w)
def mSuV (m : Lg) (w k e i : Nat) : Int64 := gJ m 67 0 (96 * mCame m w i + 8 * k + e)
def msum (m : Lg) (v1 v2 v3 : Int32) : Int64 := match ix v1 (gN m 50 0 0) with
  | none => 0
  | some w => match ix v2 (gN m 52 0 0) with
    | none => 0
    | some k => if gB m 54 0 k = true then (match ix v3 8 with
      | none => 0
      | some e => sumL (mSuV m w k e) (gN m 70 0 w)) else 0
def mstart (m : Lg) (v1 v2 : Int32) : Int32 := match ix v1 (gN m 55 0 0) with
  | none => -1
  | some t => match ix v2 (gN m 50 0 0) with
    | none => -1
    | some w => nI (gN m 58 0 (4 * t + w))
def mhad (m : Lg) (v1 v2 : Int32) : Int32 := match ix v1 (gN m 50 0 0) with
  | none => -1
  | some t => match ix v2 (gN m 50 0 0) with
    | none => -1
    | some w => nI (gN m 68 0 (4 * t + w))
def mlocked (m : Lg) (v1 v2 : Int32) : Int32 := match ix v1 (gN m 50 0 0) with
  | none => -1
  | some w => match ix v2 (gN m 52 0 0) with
    | none => -1
    | some k => gI m 71 0 (12 * w + k)
def msees (m : Lg) (v1 v2 : Int32) : Int32 := match ix v1 (gN m 55 0 0) with
  | none => -1
  | some t => match ix v2 (gN m 55 0 0) with
    | none => -1
    | some o => if gN m 59 0 o = 0 then -4 else b2i (decide (t = o) || mHas m t o)
def mmessage (m : Lg) (v w : Int32) : Int32 := match ix v (gN m 72 0 0) with
  | none => -1
  | some i => match ix w 5 with
    | none => -1
    | some j => if j = 0 then nI (gN m 73 0 i) else if j = 1 then nI (gN m 74 0 i) else if j = 2 then nI (gN m 75 0 i) else if j = 3 then nI (gN m 76 0 i) else b2i (mCanCome m i)
def mEvery (m : Lg) (t : Nat) : Bool := decide (0 < gN m 59 0 t) && decide (gN m 60 0 t + 1 = gN m 50 0 0)
def mtold (m : Lg) (v w : Int32) : Int32 := match ix v (gN m 55 0 0) with
  | none => -1
  | some t => match ix w 9 with
    | none => -1
    | some j => if j = 0 then nI (gN m 57 0 t) else if j = 1 then nI (gN m 56 0 t) else if j = 2 then nI (gN m 59 0 t) else if j = 3 then nI (gN m 60 0 t) else if j = 4 then b2i (mIsSafe m t) else if j = 5 then b2i (mEvery m t) else if j = 6 then nI (mPlain m t) else if j = 7 then nI (gN m 61 0 t) else nI (gN m 62 0 t)
def mCaQ (m : Lg) (w o : Nat) : Bool := decide (gN m 68 0 (4 * w + o) = gN m 68 0 (4 * o + o))
def mCaR (m : Lg) (w : Nat) : Bool := allN (mCaQ m w) (gN m 50 0 0)
def mCalm (m : Lg) : Bool := allN (mCaR m) (gN m 50 0 0)
def mStQ (m : Lg) (x t : Nat) : Bool := decide (gN m 57 0 t = x)
def mMdQ (m : Lg) (t : Nat) : Bool := decide (0 < gN m 59 0 t)
def mHdQ (m : Lg) (i : Nat) : Bool := !decide (gI m 71 0 i = -4)
def mcount (m : Lg) (w : Int32) : Int32 := match ix w 10 with
  | none => -1
  | some j => if j = 0 then nI (gN m 50 0 0) else if j = 1 then nI (gN m 51 0 0) else if j = 2 then nI (gN m 52 0 0) else if j = 3 then nI (gN m 55 0 0) else if j = 4 then nI (gN m 72 0 0) else if j = 5 then nI (cntN (mStQ m 2) (gN m 55 0 0)) else if j = 6 then nI (cntN (mStQ m 3) (gN m 55 0 0)) else if j = 7 then nI (cntN (mMdQ m) (gN m 55 0 0)) else if j = 8 then nI (cntN (mHdQ m) 48) else nI (cntN (mIsSafe m) (gN m 55 0 0))
/-! writers -/
def msites (m : Lg) (v1 v2 : Int32) : Int32 × Lg := match ix v1 5 with
  | none => (-1, m)
  | some a => if a < 2 then (-1, m) else match ix v2 a with
    | none => (-1, m)
    | some b => if 0 < gN m 52 0 0 ∨ 0 < gN m 55 0 0 then (-2, m) else (nI 1, uN (uN m 50 0 0 a) 51 0 0 b)
def mthing (m : Lg) (v : Int32) (b : Bool) : Int32 × Lg := match ix v (gN m 50 0 0) with
  | none => (-1, m)
  | some w => if gN m 52 0 0 = 12 then (-3, m) else (nI (gN m 52 0 0), uN (uB (uN m 53 0 (gN m 52 0 0) w) 54 0 (gN m 52 0 0) b) 52 0 0 (gN m 52 0 0 + 1))
def mBegL (m : Lg) (w : Nat) : Nat → Lg
  | 0 => m
  | o + 1 => uN (mBegL m w o) 58 0 (4 * gN (mBegL m w o) 55 0 0 + o) (gN (mBegL m w o) 68 0 (4 * w + o))
theorem mBegL_f (m : Lg) (w : Nat) {f : Nat} (hf : f ≠ 58) : ∀ o, gN (mBegL m w o) f = gN m f
  | 0 => rfl
  | o + 1 => by
    show up3 _ 58 _ _ _ f = _
    unfold up3
    rw [if_neg hf]; exact mBegL_f m w hf o
theorem mBegL_V {m : Lg} (h : MV m) (w : Nat) : ∀ o, MV (mBegL m w o)
  | 0 => h
  | o + 1 => (show MV (mBegL m w (o + 1)) from mBegL_V h w o)
theorem mBegL_Nb {m : Lg} (h : Nb m) (w : Nat) : ∀ o, Nb (mBegL m w o)
  | 0 => h
  | o + 1 => Nb.uN (mBegL_Nb h w o) (mBegL_Nb h w o _ _ _)
def mbegin (m : Lg) (v : Int32) : Int32 × Lg := match ix v (gN m 50 0 0) with
  | none => (-1, m)
  | some w => if gN m 55 0 0 = 150 then (-3, m) else (nI (gN m 55 0 0), uN (mBegL (uN m 56 0 (gN m 55 0 0) w) w 4) 55 0 0 (gN m 55 0 0 + 1))
def mWr (m : Lg) (t k : Nat) (x : Int64) : Lg := uJ (uB m 64 0 (12 * t + k) true) 65 0 (12 * t + k) x
def mwrite (m : Lg) (v1 v2 : Int32) (x : Int64) : Int32 × Lg := match ix v1 (gN m 55 0 0) with
  | none => (-1, m)
  | some t => match ix v2 (gN m 52 0 0) with
    | none => (-1, m)
    | some k => if gB m 54 0 k = true then (-1, m) else if gN m 57 0 t = 0 then (nI (mPlain (mWr m t k x) t), mWr m t k x) else (-2, m)
def mAd (m : Lg) (t k e : Nat) (x : Int32) : Lg := uJ (uB m 66 0 (12 * t + k) true) 67 0 (96 * t + 8 * k + e) (gJ m 67 0 (96 * t + 8 * k + e) + x.toInt64)
def madd (m : Lg) (v1 v2 v3 x : Int32) : Int32 × Lg := match ix v1 (gN m 55 0 0) with
  | none => (-1, m)
  | some t => match ix v2 (gN m 52 0 0) with
    | none => (-1, m)
    | some k => if gB m 54 0 k = true then (match ix v3 8 with
      | none => (-1, m)
      | some e => if gN m 57 0 t = 0 then (nI 1, mAd m t k e x) else (-2, m)) else (-1, m)
def mFirstQ (m : Lg) (i : Nat) : Bool := mCanCome m i
def firstN (q : Nat → Bool) : Nat → Option Nat
  | 0 => none
  | n + 1 => match firstN q n with
    | some i => some i
    | none => if q n then some n else none
theorem firstN_none {q : Nat → Bool} : ∀ {n : Nat}, (∀ j, j < n → q j = false) → firstN q n = none
  | 0, _ => rfl
  | n + 1, h => by
    unfold firstN
    rw [firstN_none (fun j hj => h j (by omega)), h n (by omega)]; rfl
theorem firstN_some {q : Nat → Bool} {i : Nat} (hi : q i = true) (h : ∀ j, j < i → q j = false) : ∀ {n : Nat}, i < n → firstN q n = some i
  | n + 1, hn => by
    unfold firstN
    rcases Nat.lt_or_ge i n with z | z
    · rw [firstN_some hi h z]
    · rw [firstN_none (fun j hj => h j (by omega))]
      rw [show n = i by omega, hi]; rfl
theorem firstN_is {q : Nat → Bool} {i : Nat} : ∀ {n : Nat}, firstN q n = some i → i < n ∧ q i = true
  | n + 1, h => by
    unfold firstN at h
    cases e : firstN q n with
    | some j => rw [e] at h; cases h; have := firstN_is e; exact ⟨by omega, this.2⟩
    | none =>
      rw [e] at h
      by_cases z : q n = true
      · simp [z] at h; subst h; exact ⟨by omega, z⟩
      · simp [z] at h
theorem firstN_congr {q q' : Nat → Bool} : ∀ {n : Nat}, (∀ j, j < n → q j = q' j) → firstN q n = firstN q' n
  | 0, _ => rfl
  | n + 1, h => by
    unfold firstN
    rw [firstN_congr (fun j hj => h j (by omega)), h n (by omega)]
def mFirst (m : Lg) : Option Nat := firstN (mCanCome m) (gN m 72 0 0)
def mAllF (m : Lg) : Nat → Lg
  | 0 => m
  | d + 1 => match mFirst (mAllF m d) with
    | none => mAllF m d
    | some i => mComesNow (mAllF m d) i
def mAllC (m : Lg) : Nat → Nat
  | 0 => 0
  | d + 1 => mAllC m d + (if (mFirst (mAllF m d)).isSome = true then 1 else 0)
theorem mAll_stuck {m : Lg} {d : Nat} (h : mFirst (mAllF m d) = none) : ∀ k, mAllF m (d + k) = mAllF m d ∧ mAllC m (d + k) = mAllC m d
  | 0 => ⟨rfl, rfl⟩
  | k + 1 => by
    obtain ⟨h1, h2⟩ := mAll_stuck h k
    have e1 : mAllF m (d + (k + 1)) = mAllF m d := by
      show mAllF m ((d + k) + 1) = _
      simp [mAllF, h1, h]
    have e2 : mAllC m (d + (k + 1)) = mAllC m d := by
      show mAllC m ((d + k) + 1) = _
      simp [mAllC, h1, h, h2]
    exact ⟨e1, e2⟩
def mall (m : Lg) (v : Int32) : Int32 × Lg := match ix v 501 with
  | none => (-1, m)
  | some k => (nI (mAllC m k), mAllF m k)
def mdeliver (m : Lg) (v : Int32) : Int32 × Lg := match ix v (gN m 72 0 0) with
  | none => (-1, m)
  | some i => if mCanCome m i = true then (nI (gN m 73 0 i), mComesNow m i) else (-2, m)

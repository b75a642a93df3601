theorem mB2_V {m : Lg} (h : MV m) (t : Nat) : MV (mB2 m t) := h
theorem mB2_Nb {m : Lg} (h : Nb m) {t : Nat} (hh : gN m 68 0 (4 * gN m 56 0 t + gN m 56 0 t) < 1000) : Nb (mB2 m t) := Nb.uN (Nb.uN h (by omega)) (by omega)
theorem mB3_V {m : Lg} (h : MV m) {t : Nat} (ht : t < 150) (hc : gN m 70 0 (gN m 56 0 t) < 150) : MV (mB3 m t) := mComes_V (mB2_V h t) (h.site t) ht hc (fun z => by cases z)
theorem mB3_Nb {m : Lg} (hV : MV m) (h : Nb m) {t : Nat} (ht : t < 150) (hc : gN m 70 0 (gN m 56 0 t) < 150) (hh : gN m 68 0 (4 * gN m 56 0 t + gN m 56 0 t) < 1000) : Nb (mB3 m t) := mComes_Nb (mB2_V hV t) (mB2_Nb h hh) (hV.site t) ht hc hh (fun z => by cases z)
theorem mB3_72 (m : Lg) (t : Nat) : gN (mB3 m t) 72 = gN m 72 := by
  show gN (mComes0 (mB2 m t) (gN m 56 0 t) t) 72 = _
  rw [mComes0_f _ _ _ (by decide) (by decide) (by decide)]; rfl
theorem mB3_50 (m : Lg) (t : Nat) : gN (mB3 m t) 50 = gN m 50 := by
  show gN (mComes0 (mB2 m t) (gN m 56 0 t) t) 50 = _
  rw [mComes0_f _ _ _ (by decide) (by decide) (by decide)]; rfl
theorem mB3_57 (m : Lg) (t : Nat) : gN (mB3 m t) 57 = gN (uN m 57 0 t 2) 57 := by
  show gN (mComes0 (mB2 m t) (gN m 56 0 t) t) 57 = _
  rw [mComes0_f _ _ _ (by decide) (by decide) (by decide)]; rfl
theorem mBecomes_V {m : Lg} (h : MV m) {t : Nat} (ht : t < 150) (hc : gN m 70 0 (gN m 56 0 t) < 150) (hm : gN m 72 0 0 + 4 ≤ 2400) : MV (mBecomes m t) := mSendAll_V (mB3_V h ht hc) (h.site t) ht (by rw [mB3_72]; exact hm) _ h.nst
theorem mBecomes_Nb {m : Lg} (hV : MV m) (h : Nb m) {t : Nat} (ht : t < 150) (hc : gN m 70 0 (gN m 56 0 t) < 150) (hh : gN m 68 0 (4 * gN m 56 0 t + gN m 56 0 t) < 1000) (hm : gN m 72 0 0 + 4 ≤ 2400) : Nb (mBecomes m t) := mSendAll_Nb (mB3_Nb hV h ht hc hh) (hV.site t) ht (by rw [mB3_72]; exact hm) _ hV.nst
/-! refused -/
def mRefL (m : Lg) (t : Nat) : Nat → Lg
  | 0 => m
  | o + 1 => if ¬ o = gN (mRefL m t o) 56 0 t ∧ mWritesAt (mRefL m t o) t o = true then mSend (mRefL m t o) 3 o (gN (mRefL m t o) 56 0 t) t else mRefL m t o
theorem mRefL_s (m : Lg) (t o : Nat) : mRefL m t (o + 1) = if ¬ o = gN (mRefL m t o) 56 0 t ∧ mWritesAt (mRefL m t o) t o = true then mSend (mRefL m t o) 3 o (gN (mRefL m t o) 56 0 t) t else mRefL m t o := rfl
theorem mRefL_f (m : Lg) (t : Nat) {f : Nat} (hf : f < 72) : ∀ o, gN (mRefL m t o) f = gN m f
  | 0 => rfl
  | o + 1 => by unfold mRefL; split; rw [mSend_f _ _ _ _ _ hf]; exact mRefL_f m t hf o; exact mRefL_f m t hf o
theorem mRefL_72 (m : Lg) (t : Nat) : ∀ o, gN (mRefL m t o) 72 0 0 ≤ gN m 72 0 0 + o
  | 0 => Nat.le_refl _
  | o + 1 => by
    have := mRefL_72 m t o
    unfold mRefL; split
    · rw [mSend_72]; omega
    · omega
theorem mRefL_V {m : Lg} (h : MV m) {t : Nat} (ht : t < 150) (hm : gN m 72 0 0 + 4 ≤ 2400) : ∀ o, o ≤ 4 → MV (mRefL m t o)
  | 0, _ => h
  | o + 1, ho => by
    have h2 := mRefL_72 m t o
    have h3 := mRefL_V h ht hm o (by omega)
    unfold mRefL; split
    · exact mSend_V h3 (by omega) (h3.site _) ht (by omega)
    · exact h3
theorem mRefL_Nb {m : Lg} (hV : MV m) (h : Nb m) {t : Nat} (ht : t < 150) (hm : gN m 72 0 0 + 4 ≤ 2400) : ∀ o, o ≤ 4 → Nb (mRefL m t o)
  | 0, _ => h
  | o + 1, ho => by
    have h2 := mRefL_72 m t o
    have h3 := mRefL_Nb hV h ht hm o (by omega)
    have h4 := mRefL_V hV ht hm o (by omega)
    unfold mRefL; split
    · exact mSend_Nb h3 (by omega) (by omega) (h4.site _) ht (by omega)
    · exact h3
def mR2 (m : Lg) (t : Nat) : Lg := mUnlock (uN m 57 0 t 3) t (gN m 56 0 t) (gN m 52 0 0)
def mRefused (m : Lg) (t : Nat) : Lg := if gN m 57 0 t = 1 then mRefL (mR2 m t) t (gN m 50 0 0) else m
theorem mR2_V {m : Lg} (h : MV m) (t : Nat) : MV (mR2 m t) := MV.ofN (mUnlock_N _ _ _ _) (show MV (uN m 57 0 t 3) from h)
theorem mR2_Nb {m : Lg} (h : Nb m) (t : Nat) : Nb (mR2 m t) := Nb.ofN (mUnlock_N _ _ _ _) (Nb.uN h (by omega))
theorem mR2_f (m : Lg) (t : Nat) {f : Nat} (hf : f ≠ 57) : gN (mR2 m t) f = gN m f := by
  unfold mR2
  rw [mUnlock_N]
  show up3 _ 57 _ _ _ f = _
  unfold up3
  rw [if_neg hf]
theorem mRefused_V {m : Lg} (h : MV m) {t : Nat} (ht : t < 150) (hm : gN m 72 0 0 + 4 ≤ 2400) : MV (mRefused m t) := by
  unfold mRefused; split
  · exact mRefL_V (mR2_V h t) ht (by rw [mR2_f m t (by decide)]; exact hm) _ h.nst
  · exact h
theorem mRefused_Nb {m : Lg} (hV : MV m) (h : Nb m) {t : Nat} (ht : t < 150) (hm : gN m 72 0 0 + 4 ≤ 2400) : Nb (mRefused m t) := by
  unfold mRefused; split
  · exact mRefL_Nb (mR2_V hV t) (mR2_Nb h t) ht (by rw [mR2_f m t (by decide)]; exact hm) _ hV.nst
  · exact h
/-! commit -/
def mAskL (m : Lg) (w t : Nat) : Nat → Lg
  | 0 => m
  | o + 1 => if ¬ o = w ∧ mWritesAt (mAskL m w t o) t o = true then uN (mSend (mAskL m w t o) 0 o w t) 62 0 t (gN (mSend (mAskL m w t o) 0 o w t) 62 0 t + 1) else mAskL m w t o
theorem mAskL_s (m : Lg) (w t o : Nat) : mAskL m w t (o + 1) = if ¬ o = w ∧ mWritesAt (mAskL m w t o) t o = true then uN (mSend (mAskL m w t o) 0 o w t) 62 0 t (gN (mSend (mAskL m w t o) 0 o w t) 62 0 t + 1) else mAskL m w t o := rfl
theorem mAskL_f (m : Lg) (w t : Nat) {f : Nat} (hf : f < 72) (h2 : f ≠ 62) : ∀ o, gN (mAskL m w t o) f = gN m f
  | 0 => rfl
  | o + 1 => by
    unfold mAskL; split
    · show up3 _ 62 _ _ _ f = _
      unfold up3
      rw [if_neg h2, mSend_f _ _ _ _ _ hf]; exact mAskL_f m w t hf h2 o
    · exact mAskL_f m w t hf h2 o
theorem mAskL_72 (m : Lg) (w t : Nat) : ∀ o, gN (mAskL m w t o) 72 0 0 ≤ gN m 72 0 0 + o
  | 0 => Nat.le_refl _
  | o + 1 => by
    have := mAskL_72 m w t o
    unfold mAskL; split
    · show gN (mSend (mAskL m w t o) 0 o w t) 72 0 0 ≤ _
      rw [mSend_72]; omega
    · omega
theorem mAskL_62 (m : Lg) (w t : Nat) : ∀ o, gN (mAskL m w t o) 62 0 t ≤ gN m 62 0 t + o
  | 0 => Nat.le_refl _
  | o + 1 => by
    have := mAskL_62 m w t o
    unfold mAskL; split
    · show up3 _ 62 0 t _ 62 0 t ≤ _
      rw [mSend_f _ _ _ _ _ (by decide)]
      simp [up3]; omega
    · omega
theorem mAskL_V {m : Lg} (h : MV m) {w t : Nat} (hw : w < 4) (ht : t < 150) (hm : gN m 72 0 0 + 4 ≤ 2400) : ∀ o, o ≤ 4 → MV (mAskL m w t o)
  | 0, _ => h
  | o + 1, ho => by
    have h2 := mAskL_72 m w t o
    have h3 := mAskL_V h hw ht hm o (by omega)
    unfold mAskL; split
    · exact (show MV (mSend (mAskL m w t o) 0 o w t) from mSend_V h3 (by omega) hw ht (by omega))
    · exact h3
theorem mAskL_Nb {m : Lg} (h : Nb m) {w t : Nat} (hw : w < 4) (ht : t < 150) (hm : gN m 72 0 0 + 4 ≤ 2400) (ha : gN m 62 0 t < 1000) : ∀ o, o ≤ 4 → Nb (mAskL m w t o)
  | 0, _ => h
  | o + 1, ho => by
    have h2 := mAskL_72 m w t o
    have h4 := mAskL_62 m w t o
    have h3 := mAskL_Nb h hw ht hm ha o (by omega)
    unfold mAskL; split
    · exact Nb.uN (mSend_Nb h3 (by omega) (by omega) hw ht (by omega)) (by rw [mSend_f _ _ _ _ _ (by decide)]; omega)
    · exact h3
def mAddQ (m : Lg) (t k : Nat) : Bool := gB m 66 0 (12 * t + k)
def mAwayQ (m : Lg) (t w k : Nat) : Bool := gB m 64 0 (12 * t + k) && !decide (gN m 53 0 k = w)
def mAny (m : Lg) (t : Nat) : Bool := decide (0 < mPlain m t) || anyN (mAddQ m t) (gN m 52 0 0)
def mAway (m : Lg) (t : Nat) : Bool := anyN (mAwayQ m t (gN m 56 0 t)) (gN m 52 0 0)
def mCommit (m : Lg) (t : Nat) : Lg :=
  if mAny m t = false then uN m 57 0 t 2
  else if mAreFree m t (gN m 56 0 t) = false then uN m 57 0 t 3
  else if mAway m t = false then mBecomes m t
  else mAskL (uN (mLock m t (gN m 56 0 t) (gN m 52 0 0)) 57 0 t 1) (gN m 56 0 t) t (gN m 50 0 0)
def mcommit (m : Lg) (v : Int32) : Int32 × Lg := match ix v (gN m 55 0 0) with
  | none => (-1, m)
  | some t => if gN m 57 0 t = 0 then (nI (gN (mCommit m t) 57 0 t), mCommit m t) else (-2, m)
def mabort (m : Lg) (v : Int32) : Int32 × Lg := match ix v (gN m 55 0 0) with
  | none => (-1, m)
  | some t => if gN m 57 0 t = 0 then (nI 1, uN m 57 0 t 3) else (-2, m)
/-! a message comes -/
def mShiftL (m : Lg) (i : Nat) : Nat → Lg
  | 0 => m
  | d + 1 => uN (uN (uN (uN (mShiftL m i d) 73 0 (i + d) (gN (mShiftL m i d) 73 0 (i + d + 1))) 74 0 (i + d) (gN (mShiftL m i d) 74 0 (i + d + 1))) 75 0 (i + d) (gN (mShiftL m i d) 75 0 (i + d + 1))) 76 0 (i + d) (gN (mShiftL m i d) 76 0 (i + d + 1))
theorem mShiftL_f (m : Lg) (i : Nat) {f : Nat} (hf : f < 73) : ∀ d, gN (mShiftL m i d) f = gN m f
  | 0 => rfl
  | d + 1 => by
    show up3 _ 76 _ _ _ f = _
    unfold up3
    rw [if_neg (by omega)]
    show up3 _ 75 _ _ _ f = _
    unfold up3
    rw [if_neg (by omega)]
    show up3 _ 74 _ _ _ f = _
    unfold up3
    rw [if_neg (by omega)]
    show up3 _ 73 _ _ _ f = _
    unfold up3
    rw [if_neg (by omega)]
    exact mShiftL_f m i hf d
theorem mShiftL_V {m : Lg} (h : MV m) (i : Nat) : ∀ d, MV (mShiftL m i d)
  | 0 => h
  | d + 1 => by
    have h1 := mShiftL_V h i d
    exact MV.u76 (MV.u75 (MV.u74 (show MV (uN (mShiftL m i d) 73 0 (i + d) (gN (mShiftL m i d) 73 0 (i + d + 1))) from h1) (h1.to _)) (h1.fr _)) (h1.of _)
theorem mShiftL_Nb {m : Lg} (h : Nb m) (i : Nat) : ∀ d, Nb (mShiftL m i d)
  | 0 => h
  | d + 1 => by
    have h1 := mShiftL_Nb h i d
    exact Nb.uN (Nb.uN (Nb.uN (Nb.uN h1 (h1 _ _ _)) (h1 _ _ _)) (h1 _ _ _)) (h1 _ _ _)
def mTake (m : Lg) (i : Nat) : Lg := mShiftL (uN m 72 0 0 (gN m 72 0 0 - 1)) i (gN m 72 0 0 - 1 - i)
theorem mTake_V {m : Lg} (h : MV m) (i : Nat) : MV (mTake m i) := mShiftL_V (MV.u72 h (by have := h.nms; omega)) i _
theorem mTake_Nb {m : Lg} (h : Nb m) (i : Nat) : Nb (mTake m i) := mShiftL_Nb (Nb.uN h (by have := h 72 0 0; omega)) i _
theorem mTake_f (m : Lg) (i : Nat) {f : Nat} (hf : f < 72) : gN (mTake m i) f = gN m f := by
  unfold mTake
  rw [mShiftL_f _ _ (by omega)]
  show up3 _ 72 _ _ _ f = _
  unfold up3
  rw [if_neg (by omega)]
theorem mTake_72 (m : Lg) (i : Nat) : gN (mTake m i) 72 0 0 = gN m 72 0 0 - 1 := by
  unfold mTake
  rw [mShiftL_f _ _ (by omega)]
  simp [uN, gN, up3]
def mGotAsk (m : Lg) (w fr t : Nat) : Lg := if gB m 63 0 (4 * t + w) = true then m else if mAreFree m t w = true then mSend (mLock m t w (gN m 52 0 0)) 1 fr w t else mSend m 2 fr w t
def mY1 (m : Lg) (t : Nat) : Lg := uN m 61 0 t (gN m 61 0 t + 1)
def mGotYes (m : Lg) (t : Nat) : Lg := if gN m 57 0 t = 1 ∧ gN m 61 0 t + 1 = gN m 62 0 t then mBecomes (mY1 m t) t else mY1 m t
def mGotDrop (m : Lg) (w t : Nat) : Lg := mUnlock (uB m 63 0 (4 * t + w) true) t w (gN m 52 0 0)
def mGot (m : Lg) (kd w fr t : Nat) : Lg :=
  if kd = 0 then mGotAsk m w fr t else if kd = 1 then mGotYes m t else if kd = 2 then mRefused m t else if kd = 3 then mGotDrop m w t else if kd = 4 then mComes m w t false else uN m 60 0 t (gN m 60 0 t + 1)
def mComesNow (m : Lg) (i : Nat) : Lg := mGot (mTake m i) (gN m 73 0 i) (gN m 74 0 i) (gN m 75 0 i) (gN m 76 0 i)
/-- what must hold so that a message can be let in -/
def mOK (m : Lg) (i : Nat) : Prop := gN m 72 0 0 + 4 ≤ 2400 ∧ (∀ j, gN m 68 0 j < 1000) ∧ (∀ j, gN m 60 0 j < 1000) ∧ (∀ j, gN m 61 0 j < 1000) ∧ (gN m 73 0 i = 1 → gN m 57 0 (gN m 76 0 i) = 1 → gN m 70 0 (gN m 56 0 (gN m 76 0 i)) < 150) ∧ (gN m 73 0 i = 4 → gN m 70 0 (gN m 74 0 i) < 150)
theorem mGot_V {m : Lg} (h : MV m) {kd w fr t : Nat} (hw : w < 4) (hfr : fr < 4) (ht : t < 150) (hm : gN m 72 0 0 + 4 ≤ 2400) (h1 : kd = 1 → gN m 57 0 t = 1 → gN m 70 0 (gN m 56 0 t) < 150) (h4 : kd = 4 → gN m 70 0 w < 150) : MV (mGot m kd w fr t) := by
  unfold mGot
  split
  · unfold mGotAsk
    split
    · exact h
    · split
      · exact mSend_V (MV.ofN (mLock_N _ _ _ _) h) hfr hw ht (by rw [mLock_N]; omega)
      · exact mSend_V h hfr hw ht (by omega)
  · split
    · rename_i z
      unfold mGotYes
      split
      · rename_i q
        exact mBecomes_V (show MV (mY1 m t) from h) ht (h1 z q.1) hm
      · exact h
    · split
      · exact mRefused_V h ht hm
      · split
        · exact MV.ofN (mUnlock_N _ _ _ _) (show MV (uB m 63 0 (4 * t + w) true) from h)
        · split
          · rename_i z
            exact mComes_V h hw ht (h4 z) (fun _ => by omega)
          · exact h
theorem mGot_Nb {m : Lg} (hV : MV m) (h : Nb m) {kd w fr t : Nat} (hw : w < 4) (hfr : fr < 4) (ht : t < 150) (hm : gN m 72 0 0 + 4 ≤ 2400) (h1 : kd = 1 → gN m 57 0 t = 1 → gN m 70 0 (gN m 56 0 t) < 150) (h4 : kd = 4 → gN m 70 0 w < 150) (hh : ∀ j, gN m 68 0 j < 1000) (ha : ∀ j, gN m 60 0 j < 1000) (hy : ∀ j, gN m 61 0 j < 1000) : Nb (mGot m kd w fr t) := by
  unfold mGot
  split
  · unfold mGotAsk
    split
    · exact h
    · split
      · exact mSend_Nb (Nb.ofN (mLock_N _ _ _ _) h) (by omega) hfr hw ht (by rw [mLock_N]; omega)
      · exact mSend_Nb h (by omega) hfr hw ht (by omega)
  · split
    · rename_i z
      have hY : Nb (mY1 m t) := Nb.uN h (by have := hy t; omega)
      unfold mGotYes
      split
      · rename_i q
        exact mBecomes_Nb (show MV (mY1 m t) from hV) hY ht (h1 z q.1) (hh _) hm
      · exact hY
    · split
      · exact mRefused_Nb hV h ht hm
      · split
        · exact Nb.ofN (mUnlock_N _ _ _ _) (show Nb (uB m 63 0 (4 * t + w) true) from h)
        · split
          · rename_i z
            exact mComes_Nb hV h hw ht (h4 z) (hh _) (fun _ => by omega)
          · exact Nb.uN h (by have := ha t; omega)
theorem mComesNow_V {m : Lg} (h : MV m) {i : Nat} (hk : mOK m i) : MV (mComesNow m i) := by
  refine mGot_V (mTake_V h i) (h.to i) (h.fr i) (h.of i) (by rw [mTake_72]; have := hk.1; omega) ?_ ?_
  · rw [mTake_f _ _ (by decide), mTake_f _ _ (by decide), mTake_f _ _ (by decide)]; exact hk.2.2.2.2.1
  · rw [mTake_f _ _ (by decide)]; exact hk.2.2.2.2.2
theorem mComesNow_Nb {m : Lg} (hV : MV m) (h : Nb m) {i : Nat} (hk : mOK m i) : Nb (mComesNow m i) := by
  refine mGot_Nb (mTake_V hV i) (mTake_Nb h i) (hV.to i) (hV.fr i) (hV.of i) (by rw [mTake_72]; have := hk.1; omega) ?_ ?_ ?_ ?_ ?_
  · rw [mTake_f _ _ (by decide), mTake_f _ _ (by decide), mTake_f _ _ (by decide)]; exact hk.2.2.2.2.1
  · rw [mTake_f _ _ (by decide)]; exact hk.2.2.2.2.2
  · rw [mTake_f _ _ (by decide)]; exact hk.2.1
  · rw [mTake_f _ _ (by decide)]; exact hk.2.2.1
  · rw [mTake_f _ _ (by decide)]; exact hk.2.2.2.1

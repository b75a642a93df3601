def wM (u : St) (m : Lg) : St := (u.1, u.2.1, m)
section MVu
variable {m : Lg} {j v : Nat}
theorem up3_N {P : Nat → Prop} {f i j : Nat} (h : ∀ q, P (gN m f 0 q)) (hv : P v) : ∀ q, P (gN (uN m f i j v) f 0 q) := by
  intro q
  show P (up3 (gN m) f i j v f 0 q)
  unfold up3
  rw [if_pos rfl]
  by_cases z : 0 = i ∧ q = j
  · simp only [if_pos z]; exact hv
  · simp only [if_neg z]; exact h q
theorem MV.u56 (h : MV m) (hv : v < 4) : MV (uN m 56 0 j v) := ⟨up3_N (P := fun x => x < 4) h.1 hv, h.2⟩
theorem MV.u69 (h : MV m) (hv : v < 150) : MV (uN m 69 0 j v) := ⟨h.1, up3_N (P := fun x => x < 150) h.2.1 hv, h.2.2⟩
theorem MV.u70 (h : MV m) (hv : v ≤ 150) : MV (uN m 70 0 j v) := ⟨h.1, h.2.1, up3_N (P := fun x => x ≤ 150) h.2.2.1 hv, h.2.2.2⟩
theorem MV.u74 (h : MV m) (hv : v < 4) : MV (uN m 74 0 j v) := ⟨h.1, h.2.1, h.2.2.1, up3_N (P := fun x => x < 4) h.2.2.2.1 hv, h.2.2.2.2⟩
theorem MV.u75 (h : MV m) (hv : v < 4) : MV (uN m 75 0 j v) := ⟨h.1, h.2.1, h.2.2.1, h.2.2.2.1, up3_N (P := fun x => x < 4) h.2.2.2.2.1 hv, h.2.2.2.2.2⟩
theorem MV.u76 (h : MV m) (hv : v < 150) : MV (uN m 76 0 j v) := ⟨h.1, h.2.1, h.2.2.1, h.2.2.2.1, h.2.2.2.2.1, up3_N (P := fun x => x < 150) h.2.2.2.2.2.1 hv, h.2.2.2.2.2.2⟩
theorem up3_0 (P : Nat → Prop) {f i j : Nat} (h : P (gN m f 0 0)) (hv : P v) : P (gN (uN m f i j v) f 0 0) := by
  show P (up3 (gN m) f i j v f 0 0)
  unfold up3
  rw [if_pos rfl]
  by_cases z : 0 = i ∧ 0 = j
  · simp only [if_pos z]; exact hv
  · simp only [if_neg z]; exact h
theorem MV.u52 (h : MV m) (hv : v ≤ 12) : MV (uN m 52 0 j v) := ⟨h.1, h.2.1, h.2.2.1, h.2.2.2.1, h.2.2.2.2.1, h.2.2.2.2.2.1, up3_0 (fun x => x ≤ 12) h.2.2.2.2.2.2.1 hv, h.2.2.2.2.2.2.2⟩
theorem MV.u55 (h : MV m) (hv : v ≤ 150) : MV (uN m 55 0 j v) := ⟨h.1, h.2.1, h.2.2.1, h.2.2.2.1, h.2.2.2.2.1, h.2.2.2.2.2.1, h.2.2.2.2.2.2.1, up3_0 (fun x => x ≤ 150) h.2.2.2.2.2.2.2.1 hv, h.2.2.2.2.2.2.2.2⟩
theorem MV.u72 (h : MV m) (hv : v ≤ 2400) : MV (uN m 72 0 j v) := ⟨h.1, h.2.1, h.2.2.1, h.2.2.2.1, h.2.2.2.2.1, h.2.2.2.2.2.1, h.2.2.2.2.2.2.1, h.2.2.2.2.2.2.2.1, up3_0 (fun x => x ≤ 2400) h.2.2.2.2.2.2.2.2.1 hv, h.2.2.2.2.2.2.2.2.2⟩
theorem MV.u50 (h : MV m) (hv : v ≤ 4) : MV (uN m 50 0 j v) := ⟨h.1, h.2.1, h.2.2.1, h.2.2.2.1, h.2.2.2.2.1, h.2.2.2.2.2.1, h.2.2.2.2.2.2.1, h.2.2.2.2.2.2.2.1, h.2.2.2.2.2.2.2.2.1, up3_0 (fun x => x ≤ 4) h.2.2.2.2.2.2.2.2.2 hv⟩
end MVu
def mSend (m : Lg) (kind to fr t : Nat) : Lg := uN (uN (uN (uN (uN m 73 0 (gN m 72 0 0) kind) 74 0 (gN m 72 0 0) to) 75 0 (gN m 72 0 0) fr) 76 0 (gN m 72 0 0) t) 72 0 0 (gN m 72 0 0 + 1)
theorem mSend_72 (m : Lg) (kind to fr t : Nat) : gN (mSend m kind to fr t) 72 0 0 = gN m 72 0 0 + 1 := by simp [mSend, uN, gN, up3]
theorem mSend_f (m : Lg) (kind to fr t : Nat) {f : Nat} (hf : f < 72) : gN (mSend m kind to fr t) f = gN m f := by
  show up3 _ 72 _ _ _ f = _
  unfold up3
  rw [if_neg (by omega)]
  show up3 _ 76 _ _ _ f = _
  unfold up3
  rw [if_neg (by omega)]
  show up3 _ 75 _ _ _ f = _
  unfold up3
  rw [if_neg (by omega)]
  show up3 _ 74 _ _ _ f = _
  unfold up3
  rw [if_neg (by omega)]
  show up3 _ 73 _ _ _ f = _
  unfold up3
  rw [if_neg (by omega)]
theorem mSend_V {m : Lg} (h : MV m) {kind to fr t : Nat} (h1 : to < 4) (h2 : fr < 4) (h3 : t < 150) (h4 : gN m 72 0 0 < 2400) : MV (mSend m kind to fr t) :=
  (MV.u72 (MV.u76 (MV.u75 (MV.u74 (show MV (uN m 73 0 (gN m 72 0 0) kind) from h) h1) h2) h3) (by omega))
theorem mSend_Nb {m : Lg} (h : Nb m) {kind to fr t : Nat} (h0 : kind < 100) (h1 : to < 4) (h2 : fr < 4) (h3 : t < 150) (h4 : gN m 72 0 0 < 2400) : Nb (mSend m kind to fr t) :=
  Nb.uN (Nb.uN (Nb.uN (Nb.uN (Nb.uN h (by omega)) (by omega)) (by omega)) (by omega)) (by omega)
def mLock (m : Lg) (t w : Nat) : Nat → Lg
  | 0 => m
  | k + 1 => if gB (mLock m t w k) 64 0 (12 * t + k) = true ∧ gN (mLock m t w k) 53 0 k = w then uI (mLock m t w k) 71 0 (12 * w + k) (nI t) else mLock m t w k
theorem mLock_N (m : Lg) (t w : Nat) : ∀ i, gN (mLock m t w i) = gN m
  | 0 => rfl
  | i + 1 => by unfold mLock; split; exact mLock_N m t w i; exact mLock_N m t w i
theorem mLock_B (m : Lg) (t w : Nat) : ∀ i, gB (mLock m t w i) = gB m
  | 0 => rfl
  | i + 1 => by unfold mLock; split; exact mLock_B m t w i; exact mLock_B m t w i
theorem mLock_J (m : Lg) (t w : Nat) : ∀ i, gJ (mLock m t w i) = gJ m
  | 0 => rfl
  | i + 1 => by unfold mLock; split; exact mLock_J m t w i; exact mLock_J m t w i
theorem MV.ofN {m m' : Lg} (e : gN m' = gN m) (h : MV m) : MV m' := by unfold MV at *; rw [e]; exact h
theorem Nb.ofN {m m' : Lg} (e : gN m' = gN m) (h : Nb m) : Nb m' := by unfold Nb at *; rw [e]; exact h
def mUnlock (m : Lg) (t w : Nat) : Nat → Lg
  | 0 => m
  | k + 1 => if gI (mUnlock m t w k) 71 0 (12 * w + k) = nI t then uI (mUnlock m t w k) 71 0 (12 * w + k) (-4) else mUnlock m t w k
theorem mUnlock_N (m : Lg) (t w : Nat) : ∀ i, gN (mUnlock m t w i) = gN m
  | 0 => rfl
  | i + 1 => by unfold mUnlock; split; exact mUnlock_N m t w i; exact mUnlock_N m t w i
theorem mUnlock_B (m : Lg) (t w : Nat) : ∀ i, gB (mUnlock m t w i) = gB m
  | 0 => rfl
  | i + 1 => by unfold mUnlock; split; exact mUnlock_B m t w i; exact mUnlock_B m t w i
theorem mUnlock_J (m : Lg) (t w : Nat) : ∀ i, gJ (mUnlock m t w i) = gJ m
  | 0 => rfl
  | i + 1 => by unfold mUnlock; split; exact mUnlock_J m t w i; exact mUnlock_J m t w i
def mC3 (m : Lg) (w t : Nat) : Lg := uN (uN (uN m 68 0 (4 * w + gN m 56 0 t) (gN m 68 0 (4 * w + gN m 56 0 t) + 1)) 69 0 (150 * w + gN m 70 0 w) t) 70 0 w (gN m 70 0 w + 1)
def mComes0 (m : Lg) (w t : Nat) : Lg := mUnlock (mC3 m w t) t w (gN m 52 0 0)
def mComes (m : Lg) (w t : Nat) (own : Bool) : Lg := if own then mComes0 m w t else mSend (mComes0 m w t) 5 (gN (mComes0 m w t) 56 0 t) w t
theorem mC3_V {m : Lg} (h : MV m) {w t : Nat} (ht : t < 150) (hc : gN m 70 0 w < 150) : MV (mC3 m w t) := MV.u70 (MV.u69 (show MV (uN m 68 0 (4 * w + gN m 56 0 t) (gN m 68 0 (4 * w + gN m 56 0 t) + 1)) from h) ht) (by omega)
theorem mC3_Nb {m : Lg} (h : Nb m) {w t : Nat} (ht : t < 150) (hc : gN m 70 0 w < 150) (hh : gN m 68 0 (4 * w + gN m 56 0 t) < 1000) : Nb (mC3 m w t) := Nb.uN (Nb.uN (Nb.uN h (by omega)) (by omega)) (by omega)
theorem mComes0_V {m : Lg} (h : MV m) {w t : Nat} (ht : t < 150) (hc : gN m 70 0 w < 150) : MV (mComes0 m w t) := MV.ofN (mUnlock_N _ _ _ _) (mC3_V h ht hc)
theorem mComes0_Nb {m : Lg} (h : Nb m) {w t : Nat} (ht : t < 150) (hc : gN m 70 0 w < 150) (hh : gN m 68 0 (4 * w + gN m 56 0 t) < 1000) : Nb (mComes0 m w t) := Nb.ofN (mUnlock_N _ _ _ _) (mC3_Nb h ht hc hh)
theorem mComes0_f (m : Lg) (w t : Nat) {f : Nat} (h1 : f ≠ 68) (h2 : f ≠ 69) (h3 : f ≠ 70) : gN (mComes0 m w t) f = gN m f := by
  unfold mComes0
  rw [mUnlock_N]
  show up3 _ 70 _ _ _ f = _
  unfold up3
  rw [if_neg h3]
  show up3 _ 69 _ _ _ f = _
  unfold up3
  rw [if_neg h2]
  show up3 _ 68 _ _ _ f = _
  unfold up3
  rw [if_neg h1]
theorem mComes_V {m : Lg} (h : MV m) {w t : Nat} {own : Bool} (hw : w < 4) (ht : t < 150) (hc : gN m 70 0 w < 150) (hm : own = false → gN m 72 0 0 < 2400) : MV (mComes m w t own) := by
  unfold mComes
  have h1 := mComes0_V (w := w) (t := t) h ht hc
  split
  · exact h1
  · rename_i z
    exact mSend_V h1 (h1.site _) hw ht (by rw [mComes0_f m w t (by decide) (by decide) (by decide)]; exact hm (by simpa using z))
theorem mComes_Nb {m : Lg} (hV : MV m) (h : Nb m) {w t : Nat} {own : Bool} (hw : w < 4) (ht : t < 150) (hc : gN m 70 0 w < 150) (hh : gN m 68 0 (4 * w + gN m 56 0 t) < 1000) (hm : own = false → gN m 72 0 0 < 2400) : Nb (mComes m w t own) := by
  unfold mComes
  have h1 := mComes0_V (w := w) (t := t) hV ht hc
  have h2 := mComes0_Nb (w := w) (t := t) h ht hc hh
  split
  · exact h2
  · rename_i z
    exact mSend_Nb h2 (by omega) (h1.site _) hw ht (by rw [mComes0_f m w t (by decide) (by decide) (by decide)]; exact hm (by simpa using z))
def mSendAll (m : Lg) (w t : Nat) : Nat → Lg
  | 0 => m
  | o + 1 => if o = w then mSendAll m w t o else mSend (mSendAll m w t o) 4 o w t
theorem mSendAll_f (m : Lg) (w t : Nat) {f : Nat} (hf : f < 72) : ∀ o, gN (mSendAll m w t o) f = gN m f
  | 0 => rfl
  | o + 1 => by unfold mSendAll; split; exact mSendAll_f m w t hf o; rw [mSend_f _ _ _ _ _ hf]; exact mSendAll_f m w t hf o
theorem mSendAll_72 (m : Lg) (w t : Nat) : ∀ o, gN (mSendAll m w t o) 72 0 0 ≤ gN m 72 0 0 + o
  | 0 => Nat.le_refl _
  | o + 1 => by
    have := mSendAll_72 m w t o
    unfold mSendAll; split
    · omega
    · rw [mSend_72]; omega
theorem mSendAll_V {m : Lg} (h : MV m) {w t : Nat} (hw : w < 4) (ht : t < 150) (hm : gN m 72 0 0 + 4 ≤ 2400) : ∀ o, o ≤ 4 → MV (mSendAll m w t o)
  | 0, _ => h
  | o + 1, ho => by
    have h2 := mSendAll_72 m w t o
    have h3 := mSendAll_V h hw ht hm o (by omega)
    unfold mSendAll; split
    · exact h3
    · exact mSend_V h3 (by omega) hw ht (by omega)
theorem mSendAll_Nb {m : Lg} (h : Nb m) {w t : Nat} (hw : w < 4) (ht : t < 150) (hm : gN m 72 0 0 + 4 ≤ 2400) : ∀ o, o ≤ 4 → Nb (mSendAll m w t o)
  | 0, _ => h
  | o + 1, ho => by
    have h2 := mSendAll_72 m w t o
    have h3 := mSendAll_Nb h hw ht hm o (by omega)
    unfold mSendAll; split
    · exact h3
    · exact mSend_Nb h3 (by omega) (by omega) hw ht (by omega)
def mB2 (m : Lg) (t : Nat) : Lg := uN (uN m 57 0 t 2) 59 0 t (gN m 68 0 (4 * gN m 56 0 t + gN m 56 0 t) + 1)
def mB3 (m : Lg) (t : Nat) : Lg := mComes (mB2 m t) (gN m 56 0 t) t true
def mBecomes (m : Lg) (t : Nat) : Lg := mSendAll (mB3 m t) (gN m 56 0 t) t (gN m 50 0 0)

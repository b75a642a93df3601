/-! the calls that only read -/
def SS (c m : Lg) : Prop := GI c ∧ Rel c m ∧ Nb c ∧ Nb m ∧ MV m
theorem lastL_congr {q q' : Nat → Bool} {v v' : Nat → Int64} : ∀ {n : Nat}, (∀ i, i < n → q i = q' i ∧ v i = v' i) → lastL q v n = lastL q' v' n
  | 0, _ => rfl
  | n + 1, h => by rw [lastL_s, lastL_s, lastL_congr (fun i hi => h i (by omega)), (h n (by omega)).1, (h n (by omega)).2]
theorem sumL_congr {v v' : Nat → Int64} : ∀ {n : Nat}, (∀ i, i < n → v i = v' i) → sumL v n = sumL v' n
  | 0, _ => rfl
  | n + 1, h => by rw [sumL_s, sumL_s, sumL_congr (fun i hi => h i (by omega)), h n (by omega)]
theorem GI.w6 {c : Lg} (hG : GI c) {w i : Nat} (hw : w < 4) (hi : i < gN c 3 (3 + w) 0) : cWithin c (gN c 30 w i) 6 w = true := by
  have := hG.2.2.2.2.2.1.2.2.2.2.2.2 w i hw hi
  unfold cWithin; simp; exact this.2
section RDp
variable {c m : Lg}
theorem SS.T (h : SS c m) : gN c 3 1 0 < 2 ^ 31 := by have := h.1.1.2.1.2; omega
theorem SS.K (h : SS c m) : gN c 3 0 0 < 2 ^ 31 := by have := h.1.1.2.1.1; omega
theorem SS.n (h : SS c m) : gN c 0 0 0 < 2 ^ 31 := by have := h.1.1.1.2; omega
theorem SS.Q (h : SS c m) : gN c 3 2 0 < 2 ^ 31 := by have := h.2.2.1 3 2 0; omega
theorem SS.read (h : SS c m) (v1 v2 : Int32) : cread c v1 v2 = mread m v1 v2 := by
  have hT := h.T; have hK := h.K
  obtain ⟨hG, hR, -⟩ := h
  unfold cread mread
  rw [← hR.1.2.2.2.1, ← hR.1.2.2.1]
  rcases hx : ix v1 (gN c 3 1 0) with _ | t
  · rfl
  rcases hy : ix v2 (gN c 3 0 0) with _ | k
  · rfl
  obtain ⟨ht, -⟩ := ix_some hT hx
  obtain ⟨hk, -⟩ := ix_some hK hy
  have hk12 := hG.1.2.1.1
  have hp := hG.1.2.2.2 t ht
  have hn := hG.1.1.2
  have a1 := hR.2.2.2.2.1.1 t k (by omega)
  simp only [(hR.2.1 k hk).2]
  unfold cRead mRead cValueOf
  rw [a1.1, a1.2, ← (hR.2.2.1 t).1, ← hR.2.2.2.2.2.1.1 _ (show gN c 26 t 0 < 4 by omega)]
  have := lastL_congr (q := cVaQ c (gN c 26 t 0) k 9 t) (q' := mRdQ m t k) (v := cVaV c (gN c 26 t 0) k) (v' := mRdV m k (gN c 26 t 0)) (n := gN c 3 (3 + gN c 26 t 0) 0) (fun i hi => by
    have hme := hG.mem (show gN c 26 t 0 < 4 by omega) hi
    unfold cVaQ mRdQ cVaV mRdV
    rw [← (hR.2.2.1 t).1, hR.came (by omega) hi, hR.wi hme.2, (hR.2.2.2.2.1.1 _ k (by omega)).1, (hR.2.2.2.2.1.1 _ k (by omega)).2]
    exact ⟨rfl, rfl⟩)
  rw [this]
theorem SS.latest (h : SS c m) (v1 v2 : Int32) : clatest c v1 v2 = mlatest m v1 v2 := by
  have hn' := h.n; have hK := h.K
  obtain ⟨hG, hR, -⟩ := h
  unfold clatest mlatest
  rw [← hR.1.1, ← hR.1.2.2.1]
  rcases hx : ix v1 (gN c 0 0 0) with _ | w
  · rfl
  rcases hy : ix v2 (gN c 3 0 0) with _ | k
  · rfl
  obtain ⟨hw, -⟩ := ix_some hn' hx
  obtain ⟨hk, -⟩ := ix_some hK hy
  have hk12 := hG.1.2.1.1
  have hn := hG.1.1.2
  simp only [(hR.2.1 k hk).2]
  unfold cValueOf
  rw [← hR.2.2.2.2.2.1.1 w (by omega)]
  have := lastL_congr (q := cVaQ c w k 6 w) (q' := mLaQ m w k) (v := cVaV c w k) (v' := mRdV m k w) (n := gN c 3 (3 + w) 0) (fun i hi => by
    unfold cVaQ mLaQ cVaV mRdV
    rw [hR.came (by omega) hi, hG.w6 (by omega) hi, (hR.2.2.2.2.1.1 _ k (by omega)).1, (hR.2.2.2.2.1.1 _ k (by omega)).2]
    simp)
  rw [this]
theorem SS.counted (h : SS c m) (v1 v2 v3 : Int32) : ccounted c v1 v2 v3 = mcounted m v1 v2 v3 := by
  have hT := h.T; have hK := h.K
  obtain ⟨hG, hR, -⟩ := h
  unfold ccounted mcounted
  rw [← hR.1.2.2.2.1, ← hR.1.2.2.1]
  rcases hx : ix v1 (gN c 3 1 0) with _ | t
  · rfl
  rcases hy : ix v2 (gN c 3 0 0) with _ | k
  · rfl
  obtain ⟨ht, -⟩ := ix_some hT hx
  obtain ⟨hk, -⟩ := ix_some hK hy
  have hk12 := hG.1.2.1.1
  have hp := hG.1.2.2.2 t ht
  have hn := hG.1.1.2
  simp only [(hR.2.1 k hk).2]
  split
  · rcases hz : ix v3 8 with _ | e
    · rfl
    obtain ⟨he, -⟩ := ix_some (by decide) hz
    have ei : ∀ z, 96 * z + 8 * k + e = 96 * z + (k * 8 + e) := fun z => by omega
    simp only [ei t]
    rw [hR.2.2.2.2.1.2.1 t (k * 8 + e) (by omega), ← (hR.2.2.1 t).1, ← hR.2.2.2.2.2.1.1 _ (show gN c 26 t 0 < 4 by omega)]
    congr 1
    unfold cCountOf
    refine sumL_congr (fun i hi => ?_)
    have hme := hG.mem (show gN c 26 t 0 < 4 by omega) hi
    unfold cCoV mCtV
    rw [← (hR.2.2.1 t).1, hR.came (by omega) hi, hR.wi hme.2, ei, hR.2.2.2.2.1.2.1 _ (k * 8 + e) (by omega)]
  · rfl
theorem SS.sum (h : SS c m) (v1 v2 v3 : Int32) : csum c v1 v2 v3 = msum m v1 v2 v3 := by
  have hn' := h.n; have hK := h.K
  obtain ⟨hG, hR, -⟩ := h
  unfold csum msum
  rw [← hR.1.1, ← hR.1.2.2.1]
  rcases hx : ix v1 (gN c 0 0 0) with _ | w
  · rfl
  rcases hy : ix v2 (gN c 3 0 0) with _ | k
  · rfl
  obtain ⟨hw, -⟩ := ix_some hn' hx
  obtain ⟨hk, -⟩ := ix_some hK hy
  have hk12 := hG.1.2.1.1
  have hn := hG.1.1.2
  simp only [(hR.2.1 k hk).2]
  split
  · rcases hz : ix v3 8 with _ | e
    · rfl
    obtain ⟨he, -⟩ := ix_some (by decide) hz
    unfold cCountOf
    show _ = sumL (mSuV m w k e) (gN m 70 0 w)
    rw [← hR.2.2.2.2.2.1.1 w (by omega)]
    refine sumL_congr (fun i hi => ?_)
    unfold cCoV mSuV
    rw [hR.came (by omega) hi, hG.w6 (by omega) hi, if_pos rfl, show 96 * gN c 30 w i + 8 * k + e = 96 * gN c 30 w i + (k * 8 + e) by omega, hR.2.2.2.2.1.2.1 _ (k * 8 + e) (by omega)]
  · rfl
theorem SS.start (h : SS c m) (v1 v2 : Int32) : cstart c v1 v2 = mstart m v1 v2 := by
  have hn' := h.n
  obtain ⟨hG, hR, -⟩ := h
  unfold cstart mstart
  rw [← hR.1.2.2.2.1, ← hR.1.1]
  rcases hx : ix v1 (gN c 3 1 0) with _ | t
  · rfl
  rcases hy : ix v2 (gN c 0 0 0) with _ | w
  · rfl
  obtain ⟨hw, -⟩ := ix_some hn' hy
  have hn := hG.1.1.2
  show nI (gN c 9 t w) = nI (gN m 58 0 (4 * t + w))
  rw [hR.2.2.2.1.1 t w (by omega)]
theorem SS.had (h : SS c m) (v1 v2 : Int32) : chad c v1 v2 = mhad m v1 v2 := by
  have hn' := h.n
  obtain ⟨hG, hR, -⟩ := h
  unfold chad mhad
  rw [← hR.1.1]
  rcases hx : ix v1 (gN c 0 0 0) with _ | t
  · rfl
  rcases hy : ix v2 (gN c 0 0 0) with _ | w
  · rfl
  obtain ⟨hw, -⟩ := ix_some hn' hy
  have hn := hG.1.1.2
  show nI (gN c 6 t w) = nI (gN m 68 0 (4 * t + w))
  rw [hR.2.2.2.1.2 t w (by omega)]
theorem SS.locked (h : SS c m) (v1 v2 : Int32) : clocked c v1 v2 = mlocked m v1 v2 := by
  have hn' := h.n; have hK := h.K
  obtain ⟨hG, hR, -⟩ := h
  unfold clocked mlocked
  rw [← hR.1.1, ← hR.1.2.2.1]
  rcases hx : ix v1 (gN c 0 0 0) with _ | w
  · rfl
  rcases hy : ix v2 (gN c 3 0 0) with _ | k
  · rfl
  obtain ⟨hw, -⟩ := ix_some hn' hx
  obtain ⟨hk, -⟩ := ix_some hK hy
  have hn := hG.1.1.2
  have hk12 := hG.1.2.1.1
  exact hR.2.2.2.2.2.2.1 w k (by omega) (by omega)
theorem SS.sees (h : SS c m) (v1 v2 : Int32) : csees c v1 v2 = msees m v1 v2 := by
  have hT := h.T
  obtain ⟨hG, hR, -⟩ := h
  unfold csees msees
  rw [← hR.1.2.2.2.1]
  rcases hx : ix v1 (gN c 3 1 0) with _ | t
  · rfl
  rcases hy : ix v2 (gN c 3 1 0) with _ | o
  · rfl
  obtain ⟨ho, -⟩ := ix_some hT hy
  have hn := hG.1.1.2
  have hp := hG.1.2.2.2 o ho
  show (if 0 < gN c 17 o 0 then b2i (decide (t = o) || cWithin c o 9 t) else -4) = if gN m 59 0 o = 0 then -4 else b2i (decide (t = o) || mHas m t o)
  rw [hR.wi (show gN c 26 o 0 < 4 by omega), ← (hR.2.2.1 o).2.2.1]
  by_cases z : gN c 17 o 0 = 0
  · rw [if_neg (by omega), if_pos z]
  · rw [if_pos (by omega), if_neg z]
theorem SS.message (h : SS c m) (v w : Int32) : cmessage c v w = mmessage m v w := by
  have hQ := h.Q
  obtain ⟨hG, hR, -⟩ := h
  unfold cmessage mmessage
  rw [← hR.1.2.2.2.2]
  rcases hx : ix v (gN c 3 2 0) with _ | i
  · rfl
  rcases hy : ix w 5 with _ | j
  · rfl
  obtain ⟨hi, -⟩ := ix_some hQ hx
  obtain ⟨e21, e23, e22, e24⟩ := hR.2.2.2.2.2.2.2.1 i hi
  simp only [e21, e22, e23, e24, hR.can hG hi]
theorem SS.safe (h : SS c m) (t : Nat) : cSafe c t = mIsSafe m t := by
  obtain ⟨-, hR, -⟩ := h
  unfold cSafe mIsSafe
  rw [(hR.2.2.1 t).2.2.1, (hR.2.2.1 t).2.2.2.1, hR.1.2.1]
theorem SS.plain (h : SS c m) (t : Nat) : gN c 15 t 0 = mPlain m t := by
  obtain ⟨hG, hR, -⟩ := h
  have hK := hG.1.2.1.1
  unfold mPlain
  rw [hG.2.2.1.2 t, ← hR.1.2.2.1]
  exact cntN_congr (fun k hk => (hR.2.2.2.2.1.1 t k (by omega)).1)
theorem SS.told (h : SS c m) (v w : Int32) : ctold c v w = mtold m v w := by
  have hs := h.safe; have hp := h.plain
  obtain ⟨hG, hR, -⟩ := h
  unfold ctold mtold
  rw [← hR.1.2.2.2.1]
  rcases hx : ix v (gN c 3 1 0) with _ | t
  · rfl
  rcases hy : ix w 9 with _ | j
  · rfl
  obtain ⟨a1, a2, a3, a4, a5, a6⟩ := hR.2.2.1 t
  have he : cEvery c t = mEvery m t := by
    unfold cEvery mEvery
    rw [← a3, ← a4, ← hR.1.1]
    have := (hG.2.2.2.2.2.2.2.1 t).1
    congr 1
    rw [Bool.eq_iff_iff]; simp; omega
  simp only [a1, a2, a3, a4, a5, a6, hs t, hp t, he]
theorem SS.calm (h : SS c m) : cCalm c = mCalm m := by
  obtain ⟨hG, hR, -⟩ := h
  have hn := hG.1.1.2
  unfold cCalm mCalm
  rw [← hR.1.1]
  refine allN_congr (fun w hw => ?_)
  unfold cCaR mCaR
  rw [← hR.1.1]
  refine allN_congr (fun o ho => ?_)
  unfold cCaQ mCaQ
  rw [hR.2.2.2.1.2 w o (by omega), hR.2.2.2.1.2 o o (by omega)]
theorem cntN_split (q : Nat → Bool) (a : Nat) : ∀ b, cntN q (a + b) = cntN q a + cntN (fun i => q (a + i)) b
  | 0 => rfl
  | b + 1 => by
    show cntN q ((a + b) + 1) = _
    rw [cntN_s, cntN_s, cntN_split q a b]; omega
theorem cntN_z {q : Nat → Bool} {n : Nat} (h : ∀ i, i < n → q i = false) : cntN q n = 0 := by
  rw [cntN_congr (q' := fun _ => false) h]
  induction n with
  | zero => rfl
  | succ n ih => rw [cntN_s, ih (fun i hi => h i (by omega))]; rfl
theorem SS.count (h : SS c m) (w : Int32) : ccount c w = mcount m w := by
  have hs := h.safe
  obtain ⟨hG, hR, -⟩ := h
  have hn := hG.1.1
  unfold ccount mcount
  rcases hy : ix w 10 with _ | j
  · rfl
  have e0 := hR.1
  have c2 : ∀ x, cntN (cStQ c x) (gN c 3 1 0) = cntN (mStQ m x) (gN m 55 0 0) := fun x => by
    rw [← e0.2.2.2.1]; exact cntN_congr (fun t _ => by unfold cStQ mStQ; rw [(hR.2.2.1 t).2.1])
  have c7 : sumN (cOwn c) (gN c 0 0 0) = cntN (mMdQ m) (gN m 55 0 0) := by
    obtain ⟨⟨e1, -⟩, -, -, -, e6, -⟩ := hG.2.2.2.2.2.1
    have : cntN (mMdQ m) (gN m 55 0 0) = cntN (fun t => decide (0 < gN c 17 t 0)) (gN c 3 1 0) := by
      rw [← e0.2.2.2.1]; exact cntN_congr (fun t _ => by unfold mMdQ; rw [(hR.2.2.1 t).2.2.1])
    rw [this, ← e6]
    rcases (show gN c 0 0 0 = 2 ∨ gN c 0 0 0 = 3 ∨ gN c 0 0 0 = 4 by omega) with z | z | z
    · rw [z, e1 2 2 (by omega), e1 3 3 (by omega)]; simp [sumN, cOwn]
    · rw [z, e1 3 3 (by omega)]; simp [sumN, cOwn]
    · rw [z]; simp [sumN, cOwn]
  have c8 : sumN (cLkd c) (gN c 0 0 0) = cntN (mHdQ m) 48 := by
    have hq : ∀ v, v < 4 → cLkd c v = cntN (fun i => mHdQ m (12 * v + i)) 12 := fun v hv => by
      unfold cLkd; exact cntN_congr (fun k hk => by unfold cHoQ mHdQ; rw [hR.2.2.2.2.2.2.1 v k hv hk])
    have hz : ∀ v, v < 4 → gN c 0 0 0 ≤ v → cLkd c v = 0 := fun v hv hle => by
      unfold cLkd; exact cntN_z (fun k hk => by unfold cHoQ; rw [hG.2.1 v k hv hk (Or.inl hle)]; rfl)
    have h4 : cntN (mHdQ m) 48 = cLkd c 0 + cLkd c 1 + cLkd c 2 + cLkd c 3 := by
      rw [hq 0 (by decide), hq 1 (by decide), hq 2 (by decide), hq 3 (by decide)]
      rw [show 48 = 12 + 36 from rfl, cntN_split, show 36 = 12 + 24 from rfl, cntN_split, show 24 = 12 + 12 from rfl, cntN_split]
      have a0 : cntN (mHdQ m) 12 = cntN (fun i => mHdQ m (12 * 0 + i)) 12 := cntN_congr (fun i _ => by rw [Nat.mul_zero, Nat.zero_add])
      have a2 : cntN (fun i => mHdQ m (12 + (12 + i))) 12 = cntN (fun i => mHdQ m (12 * 2 + i)) 12 := cntN_congr (fun i _ => congrArg (mHdQ m) (by omega))
      have a3 : cntN (fun i => mHdQ m (12 + (12 + (12 + i)))) 12 = cntN (fun i => mHdQ m (12 * 3 + i)) 12 := cntN_congr (fun i _ => congrArg (mHdQ m) (by omega))
      have a1 : cntN (fun i => mHdQ m (12 + i)) 12 = cntN (fun i => mHdQ m (12 * 1 + i)) 12 := cntN_congr (fun i _ => congrArg (mHdQ m) (by omega))
      rw [a0, a1, a2, a3]; omega
    rw [h4]
    rcases (show gN c 0 0 0 = 2 ∨ gN c 0 0 0 = 3 ∨ gN c 0 0 0 = 4 by omega) with z | z | z
    · rw [z, hz 2 (by decide) (by omega), hz 3 (by decide) (by omega)]; simp [sumN]
    · rw [z, hz 3 (by decide) (by omega)]; simp [sumN]
    · rw [z]; simp [sumN]
  have c9 : cntN (cSafe c) (gN c 3 1 0) = cntN (mIsSafe m) (gN m 55 0 0) := by
    rw [← e0.2.2.2.1]; exact cntN_congr (fun t _ => hs t)
  simp only [c2, c7, c8, c9]
  simp only [e0.1, e0.2.1, e0.2.2.1, e0.2.2.2.1, e0.2.2.2.2]
end RDp

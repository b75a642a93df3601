/-! the same answers to the same tests -/
section TSp
variable {c m : Lg}
theorem Rel.wi (h : Rel c m) {y t : Nat} (hy : gN c 26 y 0 < 4) : cWithin c y 9 t = mHas m t y := by
  obtain ⟨-, -, h2, h3, -⟩ := h
  unfold cWithin mHas
  rw [(h2 y).2.2.1, h3.1 t _ hy, (h2 y).1]
theorem GI.mem (h : GI c) {w i : Nat} (hw : w < 4) (hi : i < gN c 3 (3 + w) 0) : gN c 30 w i < gN c 3 1 0 ∧ gN c 26 (gN c 30 w i) 0 < 4 := by
  have := h.2.2.2.2.2.1.2.2.2.2.2.2 w i hw hi
  have h2 := h.1.2.2.2 _ this.1
  have := h.1.1.2
  exact ⟨by omega, by omega⟩
theorem Rel.came (h : Rel c m) {w i : Nat} (hw : w < 4) (hi : i < gN c 3 (3 + w) 0) : mCame m w i = gN c 30 w i := (h.2.2.2.2.2.1.2 w i hw hi).symm
theorem Rel.free (hG : GI c) (h : Rel c m) {w k t : Nat} (hw : w < 4) (hk : k < 12) : cIsFree c w k t = mIsFree m t k w := by
  unfold cIsFree mIsFree
  rw [h.2.2.2.2.2.2.1 w k hw hk, ← h.2.2.2.2.2.1.1 w hw]
  congr 1
  refine allN_congr (fun i hi => ?_)
  unfold cFrQ mFreeQ
  rw [h.came hw hi, (h.2.2.2.2.1.1 _ k hk).1, h.wi (hG.mem hw hi).2]
theorem Rel.areFree (hG : GI c) (h : Rel c m) {w t : Nat} (hw : w < 4) : cAllFree c t w = mAreFree m t w := by
  unfold cAllFree mAreFree
  rw [← h.1.2.2.1]
  refine allN_congr (fun k hk => ?_)
  have hK := hG.1.2.1.1
  unfold cAfQ mAFQ cPlQ
  rw [h.free hG hw (by omega), (h.2.2.2.2.1.1 t k (by omega)).1, (h.2.1 k hk).1]
  cases gB m 64 0 (12 * t + k) <;> cases decide (gN m 53 0 k = w) <;> rfl
theorem Rel.home (hG : GI c) (h : Rel c m) {w t : Nat} : cHasHome c t w = mWritesAt m t w := by
  unfold cHasHome mWritesAt
  rw [← h.1.2.2.1]
  refine anyN_congr (fun k hk => ?_)
  have hK := hG.1.2.1.1
  unfold cPlQ mWQ
  rw [(h.2.2.2.2.1.1 t k (by omega)).1, (h.2.1 k hk).1]
theorem Rel.can (hG : GI c) (h : Rel c m) {i : Nat} (hi : i < gN c 3 2 0) : cCanCome c (gN c 31 0 i) = mCanCome m i := by
  obtain ⟨e21, e23, e22, e24⟩ := h.2.2.2.2.2.2.2.1 i hi
  have hm := hG.2.2.2.2.2.2.1.1 i hi
  have hn := hG.1.1
  unfold cCanCome mCanCome
  rw [← e21, ← e23, ← e24]
  by_cases z : gN c 21 (gN c 31 0 i) 0 = 4
  · obtain ⟨g1, g2, g3⟩ := hm.2.2.2.2.2 z
    have ht := hm.2.2.2.2.1
    have hp := hG.1.2.2.2 _ ht
    generalize gN c 24 (gN c 31 0 i) 0 = t at *
    generalize gN c 23 (gN c 31 0 i) 0 = w at *
    congr 1
    unfold cCanTake mCanC
    rw [← (h.2.2.1 t).1, ← (h.2.2.1 t).2.2.1, ← h.2.2.2.1.2 w _ (by omega)]
    have e1 : (!decide (gN c 6 w (gN c 26 t 0) + 1 < gN c 17 t 0)) = decide (gN c 6 w (gN c 26 t 0) + 1 = gN c 17 t 0) := by
      rw [Bool.eq_iff_iff]; simp; omega
    rw [e1]; congr 1
    rw [Bool.eq_iff_iff, allN_iff, allN_iff, ← h.1.1]
    unfold cTkQ mCanQ
    constructor
    · intro g j hj
      have := g j (by omega)
      rw [← h.2.2.2.1.1 t j (by omega), ← h.2.2.2.1.2 w j (by omega)]
      simp at this ⊢; exact this
    · intro g j hj
      by_cases y : j < gN c 0 0 0
      · have := g j y
        rw [← h.2.2.2.1.1 t j (by omega), ← h.2.2.2.1.2 w j (by omega)] at this
        simp at this ⊢; exact this
      · rw [hG.2.2.2.2.2.1.1.2 t j (Or.inl (by omega))]; simp
  · simp [z]
theorem Rel.first (hG : GI c) (h : Rel c m) : cFirst c = mFirst m := by
  unfold cFirst mFirst
  rw [← h.1.2.2.2.2]
  exact firstN_congr (fun j hj => h.can hG hj)
end TSp
/-! a site takes -/
theorem mC3_f (m : Lg) (w t : Nat) {f : Nat} (h : f ≠ 68 ∧ f ≠ 69 ∧ f ≠ 70) : gN (mC3 m w t) f = gN m f := by
  unfold mC3; rw [gN_f _ _ _ _ _ h.2.2, gN_f _ _ _ _ _ h.2.1, gN_f _ _ _ _ _ h.1]
theorem Rel.take {c m : Lg} (hA : gA c) (hL : gL c) (h : Rel c m) {w t : Nat} (hw : w < 4) (ht : t < 1000) (hp : gN c 26 t 0 < 4) (hc : gN c 3 (3 + w) 0 < 150) (hall : ∀ v, v < 4 → gN c 3 (3 + v) 0 ≤ 150) : Rel (cTake c w t) (mComes0 m w t) := by
  have key : Rel (cIn (cT1 c w t) w t) (mC3 m w t) := by
    have nc : ∀ {n : Nat}, (n ≠ 3 ∧ n ≠ 30 ∧ n ≠ 6) → gN (cIn (cT1 c w t) w t) n = gN c n := fun hn => by rw [cIn_N _ _ _ ⟨hn.1, hn.2.1⟩, cT1_N _ _ _ hn.2.2]
    have n3 : ∀ i, gN (cIn (cT1 c w t) w t) 3 i 0 = if i = 3 + w then gN c 3 (3 + w) 0 + 1 else gN c 3 i 0 := fun i => by rw [cIn_3, cT1_N _ _ _ (by decide)]; simp
    have n6 : ∀ i j, gN (cIn (cT1 c w t) w t) 6 i j = if i = w ∧ j = gN c 26 t 0 then gN c 6 w (gN c 26 t 0) + 1 else gN c 6 i j := fun i j => by rw [cIn_N _ _ _ (by decide)]; unfold cT1; rw [gN_uN]; simp
    have n30 : ∀ i j, gN (cIn (cT1 c w t) w t) 30 i j = if i = w ∧ j = gN c 3 (3 + w) 0 then t else gN c 30 i j := fun i j => by unfold cIn cT1; rw [gN_f _ _ _ _ _ (by decide), gN_uN]; simp [gN_uN]
    have nm : ∀ {f : Nat}, (f ≠ 68 ∧ f ≠ 69 ∧ f ≠ 70) → gN (mC3 m w t) f = gN m f := fun hf => mC3_f _ _ _ hf
    have m68 : ∀ j, gN (mC3 m w t) 68 0 j = if j = 4 * w + gN m 56 0 t then gN m 68 0 (4 * w + gN m 56 0 t) + 1 else gN m 68 0 j := fun j => by unfold mC3; rw [gN_f _ _ _ _ _ (by decide), gN_f _ _ _ _ _ (by decide), gN_uN]; simp
    have m69 : ∀ j, gN (mC3 m w t) 69 0 j = if j = 150 * w + gN m 70 0 w then t else gN m 69 0 j := fun j => by unfold mC3; rw [gN_f _ _ _ _ _ (by decide), gN_uN]; simp [gN_uN]
    have m70 : ∀ j, gN (mC3 m w t) 70 0 j = if j = w then gN m 70 0 w + 1 else gN m 70 0 j := fun j => by unfold mC3; rw [gN_uN]; simp [gN_uN]
    have hB : gB (cIn (cT1 c w t) w t) = gB c := rfl
    have hI : gI (cIn (cT1 c w t) w t) = gI c := rfl
    have hJ : gJ (cIn (cT1 c w t) w t) = gJ c := rfl
    have mB : gB (mC3 m w t) = gB m := rfl
    have mI : gI (mC3 m w t) = gI m := rfl
    have mJ : gJ (mC3 m w t) = gJ m := rfl
    generalize cIn (cT1 c w t) w t = C at *
    generalize mC3 m w t = M at *
    obtain ⟨h0, h1, h2, h3, h4, h5, h6, h7, h8⟩ := h
    have n3' : ∀ i, i < 3 → gN C 3 i 0 = gN c 3 i 0 := fun i hi => by rw [n3, if_neg (by omega)]
    have e56 := (h2 t).1
    have e70 := h5.1 w hw
    refine ⟨h0.fr (nc (by decide)) (nc (by decide)) n3' (fun f hf => nm (by omega)), h1.fr (n3' 0 (by decide)) (nc (by decide)) (by rw [hB]) (nm (by decide)) (by rw [mB]), h2.fr (fun f hf => nc (by omega)) (fun f hf => nm (by omega)), ⟨?_, ?_⟩, h4.fr (fun _ _ => by rw [hB]) hJ (fun _ _ => by rw [mB]) mJ, ⟨?_, ?_⟩, h6.fr hI mI, h7.fr (n3' 2 (by decide)) (fun f hf => nc (by omega)) (fun f hf => nm (by omega)), h8.fr (n3' 0 (by decide)) (by rw [hB]) (by rw [mB])⟩
    · rw [nc (by decide), nm (by decide)]; exact h3.1
    · intro x o ho
      rw [n6, m68, ← e56, ← h3.2 w _ hp]
      by_cases z : x = w ∧ o = gN c 26 t 0
      · rw [if_pos z, if_pos (by omega)]
      · rw [if_neg z, if_neg (by omega)]; exact h3.2 x o ho
    · intro x hx
      rw [n3, m70, ← e70]
      by_cases z : x = w
      · rw [if_pos (by omega), if_pos z]
      · rw [if_neg (by omega), if_neg z]; exact h5.1 x hx
    · intro x i hx hi
      rw [n3] at hi
      rw [n30, m69, ← e70]
      have hx2 := hall x hx
      by_cases z : x = w ∧ i = gN c 3 (3 + w) 0
      · rw [if_pos z, if_pos (by omega)]
      · have hi2 : i < gN c 3 (3 + x) 0 := by
          by_cases y : x = w
          · rw [if_pos (by omega)] at hi; subst y; omega
          · rw [if_neg (by omega)] at hi; exact hi
        rw [if_neg z, if_neg (by omega)]; exact h5.2 x i hx hi2
  have hL' : gL (cIn (cT1 c w t) w t) := hL.fr (by rw [cIn_N _ _ _ (by decide), cT1_N _ _ _ (by decide)]) (by rw [cIn_3, if_neg (by omega), cT1_N _ _ _ (by decide)]) rfl
  have := Rel.unlock hL' (by rw [cIn_3, if_neg (by omega), cT1_N _ _ _ (by decide)]; exact hA.2.1.1) key (w := w) (t := t) ht
  rw [mC3_f _ _ _ (by decide)] at this
  exact this
/-! committing -/
theorem Rel.com {c m : Lg} (hG : GI c) (h : Rel c m) {t : Nat} (ht : t < gN c 3 1 0) (hk : gN c 17 t 0 = 0) : Rel (cM3 c t) (mB3 m t) := by
  have hp := hG.1.2.2.2 t ht
  have hn := hG.1.1.2
  have hT := hG.1.2.1.2
  have e1 := Rel.num h 16 (by decide) (mn := 57) (by decide) t 2
  have e2 := Rel.num e1 17 (by decide) (mn := 59) (by decide) t (gN c 6 (gN c 26 t 0) (gN c 26 t 0) + 1)
  have e2 : Rel (cM2 c t) (mB2 m t) := by
    have : mB2 m t = uN (uN m 57 0 t 2) 59 0 t (gN c 6 (gN c 26 t 0) (gN c 26 t 0) + 1) := by
      unfold mB2; rw [← (h.2.2.1 t).1, ← h.2.2.2.1.2 _ _ (show gN c 26 t 0 < 4 by omega)]
    rw [this]; exact e2
  have f26 : gN (cM2 c t) 26 = gN c 26 := cM2_N _ _ (by decide)
  have f3 : gN (cM2 c t) 3 = gN c 3 := cM2_N _ _ (by decide)
  have hA : gA (cM2 c t) := hG.1.fr (cM2_N _ _ (by decide)) (by rw [f3]) (by rw [f3]) (cM2_N _ _ (by decide)) f26
  have hL : gL (cM2 c t) := hG.2.1.fr (cM2_N _ _ (by decide)) (by rw [f3]) rfl
  have hlt : cntN (fun z => decide (0 < gN c 17 z 0)) (gN c 3 1 0) < gN c 3 1 0 := cnt_lt (by simp [hk]) ht
  have hcm := fun (v : Nat) (hv : v < 4) => hG.2.2.2.2.2.1.cm hG.1 hv
  have hT1 := Rel.take (c := cM2 c t) (m := mB2 m t) hA hL e2 (w := gN c 26 t 0) (t := t) (by omega) (by omega) (by rw [f26]; omega) (by rw [f3]; have := hcm (gN c 26 t 0) (by omega); omega) (fun v hv => by rw [f3]; have := hcm v hv; omega)
  have : mB3 m t = mComes0 (mB2 m t) (gN c 26 t 0) t := by
    unfold mB3 mComes; rw [if_pos rfl, (h.2.2.1 t).1]
  rw [this]; exact hT1
theorem mSendAll_s (m : Lg) (w t o : Nat) : mSendAll m w t (o + 1) = if o = w then mSendAll m w t o else mSend (mSendAll m w t o) 4 o w t := rfl
theorem Rel.toO {c m : Lg} {t : Nat} (h : Rel c m) (hF : ∀ i, i ≤ gN c 0 0 0 → gF (cToO c t 4 i)) : ∀ i, i ≤ gN c 0 0 0 → Rel (cToO c t 4 i) (mSendAll m (gN c 26 t 0) t i)
  | 0, _ => h
  | i + 1, hi => by
    have ih := Rel.toO h hF i (by omega)
    have e26 : gN (cToO c t 4 i) 26 = gN c 26 := cToO_N _ _ _ (by decide) _
    rw [cToO_s, mSendAll_s, e26]
    by_cases z : i = gN c 26 t 0
    · rw [if_pos z, if_pos z]; exact ih
    · rw [if_neg z, if_neg z]; exact ih.post (hF i (by omega)) 4 (gN c 26 t 0) i t
theorem GI.toOF {c : Lg} (h : GI c) {t : Nat} (ht : t < gN c 3 1 0) (hs : gN c 16 t 0 = 0 ∨ gN c 16 t 0 = 1) : ∀ i, i ≤ gN (cM3 c t) 0 0 0 → gF (cToO (cM3 c t) t 4 i) := by
  have h17 : gN c 17 t 0 = 0 := (h.2.2.2.2.1 t).2.2.2.1 (by omega)
  have hp : 6 ≤ pot c t := by rcases hs with z | z <;> rw [pot_of z] <;> simp [pv]
  have hc := GX.com h ht h17 hp
  have e0 : gN (cM3 c t) 0 = gN c 0 := cM3_N _ _ (by decide)
  have e31 : gN (cM3 c t) 3 1 0 = gN c 3 1 0 := by rw [cM3_3, if_neg (by omega)]
  have e32 : gN (cM3 c t) 3 2 0 = gN c 3 2 0 := by rw [cM3_3, if_neg (by omega)]
  have e26 : gN (cM3 c t) 26 = gN c 26 := cM3_N _ _ (by decide)
  have hn := h.1.1
  intro i hi
  refine (GX.toO (c := cM3 c t) (xy := z0) (t := t) (by rw [e31]; exact ht) ?_ (fun j hj a b => ?_) (fun w hw hne => ?_) i hi).1.2.2.2.2.2.2.1
  · rw [e0]
    exact hc.weak (fun z => by unfold sa z0; split <;> rename_i q <;> simp [q]) (fun _ => Nat.le_refl _) (by omega) (by omega)
  · rw [e32] at hj
    rw [cM3_N _ _ (n := 21) (by decide), cM3_N _ _ (n := 31) (by decide)] at a
    rw [cM3_N _ _ (n := 24) (by decide), cM3_N _ _ (n := 31) (by decide)] at b
    have := (h.2.2.2.2.2.2.1.1 j hj).2.2.2.2.2 a
    rw [b] at this; omega
  · rw [e0] at hw; rw [e26] at hne
    rw [e26, cM3_6, cM3_17, if_neg (fun q => hne q.1), if_pos ⟨rfl, rfl⟩]
    have := h.2.2.2.2.2.1.2.2.1 w (gN c 26 t 0); omega
theorem Rel.becomes {c m : Lg} (hG : GI c) (h : Rel c m) {t : Nat} (ht : t < gN c 3 1 0) (hs : gN c 16 t 0 = 0 ∨ gN c 16 t 0 = 1) (ha : cAny c t = true) : Rel (cMk c t) (mBecomes m t) := by
  have h17 : gN c 17 t 0 = 0 := (hG.2.2.2.2.1 t).2.2.2.1 (by omega)
  have hc := h.com hG ht h17
  have ha' : cAny (cM1 c t) t = true := by unfold cAny at *; rw [cM1_N _ _ (by decide)]; exact ha
  unfold cMk; rw [if_pos ha']
  have e0 : gN (cM3 c t) 0 = gN c 0 := cM3_N _ _ (by decide)
  have e26 : gN (cM3 c t) 26 = gN c 26 := cM3_N _ _ (by decide)
  have := Rel.toO hc (hG.toOF ht hs) (gN (cM3 c t) 0 0 0) (Nat.le_refl _)
  have e : mBecomes m t = mSendAll (mB3 m t) (gN (cM3 c t) 26 t 0) t (gN (cM3 c t) 0 0 0) := by
    unfold mBecomes; rw [e0, e26, (h.2.2.1 t).1, h.1.1]
  rw [e]; exact this
/-! telling the homes -/
theorem GX.toHF {c : Lg} {xa xy : Nat → Nat} {t x : Nat} (hx : x = 0 ∨ x = 3) (ht : t < gN c 3 1 0) (h : GX c xa (fun z => xy z + nY x t z * (gN c 0 0 0 - 1)) (2 * (gN c 0 0 0 - 1)) (2 * (gN c 0 0 0 - 1))) : ∀ i, i ≤ gN c 0 0 0 → GI (cToH c t x i) := fun i hi => (GX.toH hx ht h i hi).gi
theorem heq {C M : Lg} (hG : GI C) (h : Rel C M) {t o p : Nat} (hp : gN C 26 t 0 = p) : cHeQ C t o = true ↔ ¬ o = p ∧ mWritesAt M t o = true := by
  unfold cHeQ; rw [hp, ← h.home hG]; simp
theorem Rel.ref {c m : Lg} {t : Nat} (h : Rel c m) (hG : ∀ i, i ≤ gN c 0 0 0 → GI (cToH c t 3 i)) : ∀ i, i ≤ gN c 0 0 0 → Rel (cToH c t 3 i) (mRefL m t i)
  | 0, _ => h
  | i + 1, hi => by
    have ih := Rel.ref h hG i (by omega)
    have g := hG i (by omega)
    have e56 := (ih.2.2.1 t).1
    rw [cToH_s, mRefL_s, ← e56]
    by_cases z : cHeQ (cToH c t 3 i) t i = true
    · rw [if_pos z, if_pos ((heq g ih rfl).mp z)]
      exact ih.post g.2.2.2.2.2.2.1 3 _ i t
    · rw [if_neg z, if_neg (fun y => z ((heq g ih rfl).mpr y))]; exact ih
theorem uN_comm {g : Lg} {f i j v f' i' j' v' : Nat} (h : f ≠ f') : uN (uN g f i j v) f' i' j' v' = uN (uN g f' i' j' v') f i j v := by
  refine Prod.ext ?_ rfl
  funext a b d
  show gN (uN (uN g f i j v) f' i' j' v') a b d = gN (uN (uN g f' i' j' v') f i j v) a b d
  rw [gN_uN, gN_uN, gN_uN, gN_uN]
  by_cases z : a = f' ∧ b = i' ∧ d = j'
  · rw [if_pos z, if_neg (fun y => h (y.1.symm.trans z.1)), if_pos z]
  · rw [if_neg z, if_neg z]
theorem uN_same {g : Lg} {f i j v v' : Nat} : uN (uN g f i j v) f i j v' = uN g f i j v' := by
  refine Prod.ext ?_ rfl
  funext a b d
  show gN (uN (uN g f i j v) f i j v') a b d = gN (uN g f i j v') a b d
  rw [gN_uN, gN_uN, gN_uN]
  by_cases z : a = f ∧ b = i ∧ d = j
  · rw [if_pos z, if_pos z]
  · rw [if_neg z, if_neg z, if_neg z]
theorem post_18 (H : Lg) (t k v x f w o : Nat) : uN (cPost (uN H 18 t 0 k) x f w o) 18 t 0 v = uN (cPost H x f w o) 18 t 0 v := by
  have e32 : gN (uN H 18 t 0 k) 32 0 0 = gN H 32 0 0 := by rw [gN_f _ _ _ _ _ (by decide)]
  have e3 : gN (uN H 18 t 0 k) 3 2 0 = gN H 3 2 0 := by rw [gN_f _ _ _ _ _ (by decide)]
  unfold cPost cPq gM
  rw [e32, e3]
  rw [uN_comm (f := 18) (f' := 21) (by decide), uN_comm (f := 18) (f' := 22) (by decide), uN_comm (f := 18) (f' := 23) (by decide), uN_comm (f := 18) (f' := 24) (by decide), uN_comm (f := 18) (f' := 31) (by decide), uN_comm (f := 18) (f' := 32) (by decide), uN_comm (f := 18) (f' := 3) (by decide), uN_same]
theorem Rel.ask {c m : Lg} {t p : Nat} (hp : gN c 26 t 0 = p) (h18 : gN c 18 t 0 = 0) (h : Rel c m) (hG : ∀ i, i ≤ gN c 0 0 0 → GI (cToH c t 0 i)) : ∀ i, i ≤ gN c 0 0 0 → Rel (uN (cToH c t 0 i) 18 t 0 (cToHn c t 0 i)) (mAskL m p t i)
  | 0, _ => by
    have := Rel.num h 18 (by decide) (mn := 62) (by decide) t 0
    have e : uN m 62 0 t 0 = m := by
      refine Prod.ext ?_ rfl
      funext a b d
      show gN (uN m 62 0 t 0) a b d = gN m a b d
      rw [gN_uN]; split
      · rename_i z; obtain ⟨rfl, rfl, rfl⟩ := z; rw [← (h.2.2.1 d).2.2.2.2.2, h18]
      · rfl
    rw [e] at this; exact this
  | i + 1, hi => by
    have ih := Rel.ask hp h18 h hG i (by omega)
    have g := hG i (by omega)
    have e26 : gN (cToH c t 0 i) 26 t 0 = p := by rw [cToH_N _ _ _ (by decide)]; exact hp
    have hw : cHeQ (cToH c t 0 i) t i = true ↔ ¬ i = p ∧ mWritesAt (mAskL m p t i) t i = true := by
      have hh : cHasHome (cToH c t 0 i) t i = mWritesAt (mAskL m p t i) t i := by
        have hK := g.1.2.1.1
        unfold cHasHome mWritesAt
        have e52 := ih.1.2.2.1
        rw [gN_f _ _ _ _ _ (by decide)] at e52
        rw [← e52]
        refine anyN_congr (fun k hk => ?_)
        unfold cPlQ mWQ
        have a1 := (ih.2.2.2.2.1.1 t k (by omega)).1
        have a2 := (ih.2.1 k (by rw [gN_f _ _ _ _ _ (by decide)]; exact hk)).1
        rw [gN_f _ _ _ _ _ (by decide)] at a2
        rw [← a1, ← a2]; rfl
      unfold cHeQ; rw [e26, hh]; simp
    rw [cToH_s, cToHn_s, mAskL_s, e26]
    by_cases z : cHeQ (cToH c t 0 i) t i = true
    · rw [if_pos z, if_pos z, if_pos (hw.mp z)]
      have gf : gF (uN (cToH c t 0 i) 18 t 0 (cToHn c t 0 i)) := g.2.2.2.2.2.2.1.fr (gN_f _ _ _ _ _ (by decide)) (by rw [gN_f _ _ _ _ _ (by decide)]) (by rw [gN_f _ _ _ _ _ (by decide)]) (gN_f _ _ _ _ _ (by decide)) (gN_f _ _ _ _ _ (by decide)) (gN_f _ _ _ _ _ (by decide)) (gN_f _ _ _ _ _ (by decide)) (gN_f _ _ _ _ _ (by decide)) (gN_f _ _ _ _ _ (by decide)) (gN_f _ _ _ _ _ (by decide)) (gN_f _ _ _ _ _ (by decide)) (gN_f _ _ _ _ _ (by decide))
      have hpost := ih.post gf 0 p i t
      have hnum := Rel.num hpost 18 (by decide) (mn := 62) (by decide) t (cToHn c t 0 i + 1)
      rw [post_18] at hnum
      have e62 : gN (mSend (mAskL m p t i) 0 i p t) 62 0 t = cToHn c t 0 i := by
        rw [← (hpost.2.2.1 t).2.2.2.2.2, cPost_N _ _ _ _ _ (by decide), gN_uN]; simp
      rw [e62]; exact hnum
    · rw [if_neg z, if_neg z, if_neg (fun y => z (hw.mpr y))]; exact ih

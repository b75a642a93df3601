/-! locks -/
theorem gI_uI (g : Lg) (f i j : Nat) (v : Int32) (f' i' j' : Nat) : gI (uI g f i j v) f' i' j' = if f' = f ∧ i' = i ∧ j' = j then v else gI g f' i' j' := by
  show up3 (gI g) f i j v f' i' j' = _
  unfold up3
  by_cases h : f' = f
  · subst h; simp
  · simp [h]
theorem gB_uB (g : Lg) (f i j : Nat) (v : Bool) (f' i' j' : Nat) : gB (uB g f i j v) f' i' j' = if f' = f ∧ i' = i ∧ j' = j then v else gB g f' i' j' := by
  show up3 (gB g) f i j v f' i' j' = _
  unfold up3
  by_cases h : f' = f
  · subst h; simp
  · simp [h]
theorem gJ_uJ (g : Lg) (f i j : Nat) (v : Int64) (f' i' j' : Nat) : gJ (uJ g f i j v) f' i' j' = if f' = f ∧ i' = i ∧ j' = j then v else gJ g f' i' j' := by
  show up3 (gJ g) f i j v f' i' j' = _
  unfold up3
  by_cases h : f' = f
  · subst h; simp
  · simp [h]
theorem cPlQ_N {c c' : Lg} (hN : gN c' = gN c) (hB : gB c' = gB c) (t w k : Nat) : cPlQ c' t w k = cPlQ c t w k := by unfold cPlQ; rw [hN, hB]
theorem cLock_I (c : Lg) (t w v j : Nat) : ∀ n, gI (cLock c t w n) 7 v j = if v = w ∧ j < n ∧ cPlQ c t w j = true then nI t else gI c 7 v j
  | 0 => by simp [cLock]
  | n + 1 => by
    have ih := cLock_I c t w v j n
    have hq := cPlQ_N (cLock_N c t w n) (cLock_B c t w n) t w n
    show gI (if cPlQ (cLock c t w n) t w n = true then uI (cLock c t w n) 7 w n (nI t) else cLock c t w n) 7 v j = _
    rw [hq]
    by_cases z : cPlQ c t w n = true
    · rw [if_pos z, gI_uI, ih]
      by_cases y : v = w ∧ j = n
      · obtain ⟨rfl, rfl⟩ := y; simp [z]
      · rw [if_neg (fun h => y h.2)]
        by_cases x : v = w ∧ j < n ∧ cPlQ c t w j = true
        · rw [if_pos x, if_pos ⟨x.1, by omega, x.2.2⟩]
        · rw [if_neg x, if_neg (fun h => x ⟨h.1, by omega, h.2.2⟩)]
    · rw [if_neg z, ih]
      by_cases x : v = w ∧ j < n ∧ cPlQ c t w j = true
      · rw [if_pos x, if_pos ⟨x.1, by omega, x.2.2⟩]
      · rw [if_neg x, if_neg]
        rintro ⟨h1, h2, h3⟩
        by_cases y : j = n
        · subst y; exact z h3
        · exact x ⟨h1, by omega, h3⟩
theorem cUnlock_I (c : Lg) (w t v j : Nat) : ∀ n, gI (cUnlock c w t n) 7 v j = if v = w ∧ j < n ∧ gI c 7 v j = nI t then -4 else gI c 7 v j
  | 0 => by simp [cUnlock]
  | n + 1 => by
    have ih := cUnlock_I c w t v j n
    have i2 : gI (cUnlock c w t n) 7 w n = gI c 7 w n := by rw [cUnlock_I c w t w n n, if_neg (by omega)]
    show gI (if gI (cUnlock c w t n) 7 w n = nI t then uI (cUnlock c w t n) 7 w n (-4) else cUnlock c w t n) 7 v j = _
    rw [i2]
    by_cases z : gI c 7 w n = nI t
    · rw [if_pos z, gI_uI, ih]
      by_cases y : v = w ∧ j = n
      · obtain ⟨rfl, rfl⟩ := y; simp [z]
      · rw [if_neg (fun h => y h.2)]
        by_cases x : v = w ∧ j < n ∧ gI c 7 v j = nI t
        · rw [if_pos x, if_pos ⟨x.1, by omega, x.2.2⟩]
        · rw [if_neg x, if_neg (fun h => x ⟨h.1, by omega, h.2.2⟩)]
    · rw [if_neg z, ih]
      by_cases x : v = w ∧ j < n ∧ gI c 7 v j = nI t
      · rw [if_pos x, if_pos ⟨x.1, by omega, x.2.2⟩]
      · rw [if_neg x, if_neg]
        rintro ⟨h1, h2, h3⟩
        by_cases y : j = n
        · subst y; subst h1; exact z h3
        · exact x ⟨h1, by omega, h3⟩
theorem GX.lock {c : Lg} {xa xy : Nat → Nat} {xp xq : Nat} (h : GX c xa xy xp xq) (t w : Nat) {n : Nat} (hn : n = gN c 3 0 0) : GX (cLock c t w n) xa xy xp xq := by
  refine h.I (cLock_N _ _ _ _) (cLock_B _ _ _ _) (cLock_J _ _ _ _) ?_
  intro v k hv hk hz
  rw [cLock_N] at hz
  rw [cLock_I, if_neg, h.2.1 v k hv hk hz]
  rintro ⟨rfl, h2, h3⟩
  have := h.1.2.2.1 k (by omega)
  unfold cPlQ at h3
  simp at h3
  omega
theorem GX.unlock {c : Lg} {xa xy : Nat → Nat} {xp xq : Nat} (h : GX c xa xy xp xq) (w t n : Nat) : GX (cUnlock c w t n) xa xy xp xq := by
  refine h.I (cUnlock_N _ _ _ _) (cUnlock_B _ _ _ _) (cUnlock_J _ _ _ _) ?_
  intro v k hv hk hz
  rw [cUnlock_N] at hz
  rw [cUnlock_I]; split
  · rfl
  · exact h.2.1 v k hv hk hz
/-! a message is posted -/
theorem cPost_21 (c : Lg) (x f t o q : Nat) : gN (cPost c x f t o) 21 q 0 = if q = gN c 32 0 0 then x else gN c 21 q 0 := by unfold cPost cPq gM; simp [gN_uN]
theorem cPost_22 (c : Lg) (x f t o q : Nat) : gN (cPost c x f t o) 22 q 0 = if q = gN c 32 0 0 then f else gN c 22 q 0 := by unfold cPost cPq gM; simp [gN_uN]
theorem cPost_23 (c : Lg) (x f t o q : Nat) : gN (cPost c x f t o) 23 q 0 = if q = gN c 32 0 0 then t else gN c 23 q 0 := by unfold cPost cPq gM; simp [gN_uN]
theorem cPost_24 (c : Lg) (x f t o q : Nat) : gN (cPost c x f t o) 24 q 0 = if q = gN c 32 0 0 then o else gN c 24 q 0 := by unfold cPost cPq gM; simp [gN_uN]
theorem cPost_31 (c : Lg) (x f t o j : Nat) : gN (cPost c x f t o) 31 0 j = if j = gN c 3 2 0 then gN c 32 0 0 else gN c 31 0 j := by unfold cPost cPq gM; simp [gN_uN]
theorem qs_post {c : Lg} {x f t o : Nat} {w w' : Nat → Nat} (hF : gF c) (hw : ∀ q, q < gN c 32 0 0 → w' q = w q) : qs (cPost c x f t o) w' = qs c w + w' (gN c 32 0 0) := by
  unfold qs
  rw [cPost_3, if_pos ⟨rfl, rfl⟩, sumN_s, cPost_31, if_pos rfl]
  congr 1
  refine sumN_congr (fun i hi => ?_)
  rw [cPost_31, if_neg (by omega), hw _ (hF.1 i hi).1]
theorem wA_post (c : Lg) (x f t o : Nat) {q : Nat} (hq : q < gN c 32 0 0) (z : Nat) : wA (cPost c x f t o) z q = wA c z q := by
  have e : q ≠ gN c 32 0 0 := by omega
  unfold wA; simp only [cPost_21, cPost_24, if_neg e]
theorem wY_post (c : Lg) (x f t o : Nat) {q : Nat} (hq : q < gN c 32 0 0) (z : Nat) : wY (cPost c x f t o) z q = wY c z q := by
  have e : q ≠ gN c 32 0 0 := by omega
  unfold wY; simp only [cPost_21, cPost_24, if_neg e]
theorem wP_post (c : Lg) (x f t o : Nat) {q : Nat} (hq : q < gN c 32 0 0) : wP (cPost c x f t o) q = wP c q := by
  have e : q ≠ gN c 32 0 0 := by omega
  unfold wP; simp only [cPost_21, if_neg e]
def nA (x o z : Nat) : Nat := if (x = 4 ∨ x = 5) ∧ o = z then 1 else 0
def nY (x o z : Nat) : Nat := if x < 3 ∧ o = z then 1 else 0
def nP (x : Nat) : Nat := if x = 0 ∨ x = 4 then 1 else 0
theorem gG.post {c : Lg} {xa xy ya yy : Nat → Nat} {xp xq : Nat} {x f t o : Nat} (hF : gF c) (h : gG c xa xy (xp + 1 + nP x) (xq + 2)) (ha : ∀ z, xa z = ya z + nA x o z) (hy : ∀ z, xy z = yy z + nY x o z) : gG (cPost c x f t o) ya yy xp xq := by
  obtain ⟨h1, h2, h3, h4⟩ := h
  have e0 : gN (cPost c x f t o) 0 = gN c 0 := cPost_N _ _ _ _ _ (by decide)
  have e16 : gN (cPost c x f t o) 16 = gN c 16 := cPost_N _ _ _ _ _ (by decide)
  have e17 : gN (cPost c x f t o) 17 = gN c 17 := cPost_N _ _ _ _ _ (by decide)
  have e19 : gN (cPost c x f t o) 19 = gN c 19 := cPost_N _ _ _ _ _ (by decide)
  have e20 : gN (cPost c x f t o) 20 = gN c 20 := cPost_N _ _ _ _ _ (by decide)
  have ep : pot (cPost c x f t o) = pot c := by funext z; unfold pot; rw [e16]
  have e31 : gN (cPost c x f t o) 3 1 0 = gN c 3 1 0 := by rw [cPost_3, if_neg (by decide)]
  have e32 : gN (cPost c x f t o) 3 2 0 = gN c 3 2 0 + 1 := by rw [cPost_3, if_pos ⟨rfl, rfl⟩]
  refine ⟨fun z => ?_, fun z => ?_, ?_, ?_⟩
  · rw [e0, e17, e20, qs_post hF (fun q hq => wA_post c x f t o hq z)]
    have : wA (cPost c x f t o) z (gN c 32 0 0) = nA x o z := by unfold wA nA; rw [cPost_21, cPost_24, if_pos rfl, if_pos rfl]
    rw [this]; have := ha z; have := h1 z
    exact ⟨by omega, fun y => by have := (h1 z).2 y; omega⟩
  · rw [e16, e19, qs_post hF (fun q hq => wY_post c x f t o hq z)]
    have : wY (cPost c x f t o) z (gN c 32 0 0) = nY x o z := by unfold wY nY; rw [cPost_21, cPost_24, if_pos rfl, if_pos rfl]
    rw [this]; have := hy z; have := h2 z
    exact ⟨by omega, fun y => by have := (h2 z).2 y; omega⟩
  · rw [cPost_32, e31, ep, qs_post (w := wP c) hF (fun q hq => wP_post c x f t o hq)]
    have : wP (cPost c x f t o) (gN c 32 0 0) = nP x := by unfold wP nP; rw [cPost_21, if_pos rfl]
    rw [this]; omega
  · rw [e31, e32, ep]; omega
theorem gF.post {c : Lg} {x f w o : Nat} (hF : gF c) (hx : x < 6) (hf : f < gN c 0 0 0) (hw : w < gN c 0 0 0) (ho : o < gN c 3 1 0) (h4 : x = 4 → f = gN c 26 o 0 ∧ w ≠ gN c 26 o 0 ∧ gN c 6 w (gN c 26 o 0) < gN c 17 o 0 ∧ (∀ i, i < gN c 3 2 0 → gN c 21 (gN c 31 0 i) 0 = 4 → gN c 23 (gN c 31 0 i) 0 = w → gN c 24 (gN c 31 0 i) 0 = o → False)) : gF (cPost c x f w o) := by
  have e0 : gN (cPost c x f w o) 0 = gN c 0 := cPost_N _ _ _ _ _ (by decide)
  have e6 : gN (cPost c x f w o) 6 = gN c 6 := cPost_N _ _ _ _ _ (by decide)
  have e17 : gN (cPost c x f w o) 17 = gN c 17 := cPost_N _ _ _ _ _ (by decide)
  have e26 : gN (cPost c x f w o) 26 = gN c 26 := cPost_N _ _ _ _ _ (by decide)
  have e31 : gN (cPost c x f w o) 3 1 0 = gN c 3 1 0 := by rw [cPost_3, if_neg (by decide)]
  have e32 : gN (cPost c x f w o) 3 2 0 = gN c 3 2 0 + 1 := by rw [cPost_3, if_pos ⟨rfl, rfl⟩]
  have old : ∀ i, i < gN c 3 2 0 → gN (cPost c x f w o) 31 0 i = gN c 31 0 i ∧ gN c 31 0 i ≠ gN c 32 0 0 := fun i hi => ⟨by rw [cPost_31, if_neg (by omega)], by have := (hF.1 i hi).1; omega⟩
  have new : gN (cPost c x f w o) 31 0 (gN c 3 2 0) = gN c 32 0 0 := by rw [cPost_31, if_pos rfl]
  refine ⟨fun i hi => ?_, fun i j hi hj => ?_⟩
  · unfold gM1
    rw [e0, e6, e17, e26, e31, cPost_32]
    rw [e32] at hi
    by_cases z : i = gN c 3 2 0
    · subst z
      rw [new, cPost_21, cPost_22, cPost_23, cPost_24, if_pos rfl, if_pos rfl, if_pos rfl, if_pos rfl]
      exact ⟨by omega, hx, hf, hw, ho, fun y => ⟨(h4 y).1, (h4 y).2.1, (h4 y).2.2.1⟩⟩
    · obtain ⟨g1, g2⟩ := old i (by omega)
      rw [g1, cPost_21, cPost_22, cPost_23, cPost_24, if_neg g2, if_neg g2, if_neg g2, if_neg g2]
      have := hF.1 i (by omega)
      exact ⟨by have := this.1; omega, this.2⟩
  · rw [e32] at hi hj
    by_cases zi : i = gN c 3 2 0
    · by_cases zj : j = gN c 3 2 0
      · intros; omega
      · subst zi
        obtain ⟨g1, g2⟩ := old j (by omega)
        rw [new, g1, cPost_21, cPost_21, cPost_23, cPost_23, cPost_24, cPost_24, if_pos rfl, if_pos rfl, if_pos rfl, if_neg g2, if_neg g2, if_neg g2]
        intro a1 a2 a3 a4
        exact absurd ((h4 a1).2.2.2 j (by omega) a2 a3.symm a4.symm) id
    · obtain ⟨g1, g2⟩ := old i (by omega)
      by_cases zj : j = gN c 3 2 0
      · subst zj
        rw [new, g1, cPost_21, cPost_21, cPost_23, cPost_23, cPost_24, cPost_24, if_pos rfl, if_pos rfl, if_pos rfl, if_neg g2, if_neg g2, if_neg g2]
        intro a1 a2 a3 a4
        exact absurd ((h4 a2).2.2.2 i (by omega) a1 a3 a4) id
      · obtain ⟨g3, g4⟩ := old j (by omega)
        rw [g1, g3, cPost_21, cPost_21, cPost_23, cPost_23, cPost_24, cPost_24, if_neg g2, if_neg g2, if_neg g2, if_neg g4, if_neg g4, if_neg g4]
        exact hF.2 i j (by omega) (by omega)
theorem GX.post {c : Lg} {xa xy ya yy : Nat → Nat} {xp xq : Nat} {x f w o : Nat} (h : GX c xa xy (xp + 1 + nP x) (xq + 2)) (hx : x < 6) (hf : f < gN c 0 0 0) (hw : w < gN c 0 0 0) (ho : o < gN c 3 1 0) (h4 : x = 4 → f = gN c 26 o 0 ∧ w ≠ gN c 26 o 0 ∧ gN c 6 w (gN c 26 o 0) < gN c 17 o 0 ∧ (∀ i, i < gN c 3 2 0 → gN c 21 (gN c 31 0 i) 0 = 4 → gN c 23 (gN c 31 0 i) 0 = w → gN c 24 (gN c 31 0 i) 0 = o → False)) (ha : ∀ z, xa z = ya z + nA x o z) (hy : ∀ z, xy z = yy z + nY x o z) : GX (cPost c x f w o) ya yy xp xq := by
  obtain ⟨a, l, cc, k, d, e, ff, g⟩ := h
  have n3 : ∀ i, i ≠ 2 → gN (cPost c x f w o) 3 i 0 = gN c 3 i 0 := fun i hi => by rw [cPost_3, if_neg (fun z => hi z.1)]
  have nn : ∀ {n : Nat}, (n ≠ 3 ∧ n ≠ 21 ∧ n ≠ 22 ∧ n ≠ 23 ∧ n ≠ 24 ∧ n ≠ 31 ∧ n ≠ 32) → gN (cPost c x f w o) n = gN c n := fun hn => cPost_N _ _ _ _ _ hn
  exact ⟨a.fr (nn (by decide)) (n3 0 (by decide)) (n3 1 (by decide)) (nn (by decide)) (nn (by decide)), l.fr (nn (by decide)) (n3 0 (by decide)) rfl, cc.fr (n3 0 (by decide)) rfl (nn (by decide)), k.fr (n3 1 (by decide)) (fun _ _ => ⟨rfl, rfl, rfl⟩) (fun _ _ => ⟨rfl, rfl⟩) (fun n t h1 h2 _ => by rw [nn (by omega)]), d.fr (nn (by decide)) (nn (by decide)) (nn (by decide)) (nn (by decide)), e.fr (nn (by decide)) (n3 1 (by decide)) (fun w hw => n3 _ (by omega)) (nn (by decide)) (nn (by decide)) (nn (by decide)) (nn (by decide)) (nn (by decide)), ff.post hx hf hw ho h4, g.post ff ha hy⟩
/-! a message leaves -/
theorem qs_rem {c : Lg} {i : Nat} (hi : i < gN c 3 2 0) (w : Nat → Nat) : qs (cRem c i) w + w (gN c 31 0 i) = qs c w := by
  unfold qs
  rw [cRem_3, if_pos ⟨rfl, rfl⟩]
  obtain ⟨n, hn⟩ : ∃ n, gN c 3 2 0 = n + 1 := ⟨gN c 3 2 0 - 1, by omega⟩
  rw [hn, Nat.add_sub_cancel, ← sumN_cut (fun x => w (gN c 31 0 x)) i n (by omega)]
  congr 1
  refine sumN_congr (fun x _ => ?_)
  rw [cRem_31]; split <;> rfl
theorem GX.rem {c : Lg} {i : Nat} (h : GI c) (hi : i < gN c 3 2 0) : GX (cRem c i) (fun z => wA c z (gN c 31 0 i)) (fun z => wY c z (gN c 31 0 i)) (wP c (gN c 31 0 i)) 2 := by
  obtain ⟨a, l, cc, k, d, e, ff, g⟩ := h
  have n3 : ∀ j, j ≠ 2 → gN (cRem c i) 3 j 0 = gN c 3 j 0 := fun j hj => by rw [cRem_3, if_neg (fun z => hj z.1)]
  have nn : ∀ {n : Nat}, (n ≠ 3 ∧ n ≠ 31) → gN (cRem c i) n = gN c n := fun hn => cRem_N _ _ hn
  have e32 : gN (cRem c i) 3 2 0 = gN c 3 2 0 - 1 := by rw [cRem_3, if_pos ⟨rfl, rfl⟩]
  refine ⟨a.fr (nn (by decide)) (n3 0 (by decide)) (n3 1 (by decide)) (nn (by decide)) (nn (by decide)), l.fr (nn (by decide)) (n3 0 (by decide)) rfl, cc.fr (n3 0 (by decide)) rfl (nn (by decide)), k.fr (n3 1 (by decide)) (fun _ _ => ⟨rfl, rfl, rfl⟩) (fun _ _ => ⟨rfl, rfl⟩) (fun n t h1 h2 _ => by rw [nn (by omega)]), d.fr (nn (by decide)) (nn (by decide)) (nn (by decide)) (nn (by decide)), e.fr (nn (by decide)) (n3 1 (by decide)) (fun w hw => n3 _ (by omega)) (nn (by decide)) (nn (by decide)) (nn (by decide)) (nn (by decide)) (nn (by decide)), ⟨?_, ?_⟩, ?_, ?_, ?_, ?_⟩
  · intro j hj
    rw [e32] at hj
    unfold gM1
    rw [nn (n := 0) (by decide), nn (n := 6) (by decide), nn (n := 17) (by decide), nn (n := 21) (by decide), nn (n := 22) (by decide), nn (n := 23) (by decide), nn (n := 24) (by decide), nn (n := 26) (by decide), nn (n := 32) (by decide), n3 1 (by decide), cRem_31]
    split
    · exact ff.1 (j + 1) (by omega)
    · exact ff.1 j (by omega)
  · intro x y hx hy
    rw [e32] at hx hy
    rw [nn (n := 21) (by decide), nn (n := 23) (by decide), nn (n := 24) (by decide), cRem_31, cRem_31]
    intro a1 a2 a3 a4
    by_cases z1 : i ≤ x
    · by_cases z2 : i ≤ y
      · rw [if_pos z1] at a1 a3 a4; rw [if_pos z2] at a2 a3 a4
        have := ff.2 (x + 1) (y + 1) (by omega) (by omega) a1 a2 a3 a4; omega
      · rw [if_pos z1] at a1 a3 a4; rw [if_neg z2] at a2 a3 a4
        have := ff.2 (x + 1) y (by omega) (by omega) a1 a2 a3 a4; omega
    · by_cases z2 : i ≤ y
      · rw [if_neg z1] at a1 a3 a4; rw [if_pos z2] at a2 a3 a4
        have := ff.2 x (y + 1) (by omega) (by omega) a1 a2 a3 a4; omega
      · rw [if_neg z1] at a1 a3 a4; rw [if_neg z2] at a2 a3 a4
        exact ff.2 x y (by omega) (by omega) a1 a2 a3 a4
  all_goals obtain ⟨g1, g2, g3, g4⟩ := g
  · intro z
    have ew : wA (cRem c i) z = wA c z := by funext q; unfold wA; rw [nn (n := 21) (by decide), nn (n := 24) (by decide)]
    rw [ew, nn (n := 0) (by decide), nn (n := 17) (by decide), nn (n := 20) (by decide)]
    have := qs_rem hi (wA c z); have h1 := g1 z; simp only [z0] at h1; dsimp only
    exact ⟨by omega, fun y => by have := h1.2 y; omega⟩
  · intro z
    have ew : wY (cRem c i) z = wY c z := by funext q; unfold wY; rw [nn (n := 21) (by decide), nn (n := 24) (by decide)]
    rw [ew, nn (n := 16) (by decide), nn (n := 19) (by decide)]
    have := qs_rem hi (wY c z); have h1 := g2 z; simp only [z0] at h1; dsimp only
    exact ⟨by omega, fun y => by have := h1.2 y; omega⟩
  · have ew : wP (cRem c i) = wP c := by funext q; unfold wP; rw [nn (n := 21) (by decide)]
    have ep : pot (cRem c i) = pot c := by funext q; unfold pot; rw [nn (n := 16) (by decide)]
    rw [ew, ep, n3 1 (by decide), nn (n := 32) (by decide)]
    have := qs_rem hi (wP c); omega
  · have ep : pot (cRem c i) = pot c := by funext q; unfold pot; rw [nn (n := 16) (by decide)]
    rw [ep, n3 1 (by decide), e32]; omega

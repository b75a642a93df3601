/-! sums -/
theorem sumN_congr {f g : Nat → Nat} : ∀ {n : Nat}, (∀ i, i < n → f i = g i) → sumN f n = sumN g n
  | 0, _ => rfl
  | n + 1, h => by rw [sumN_s, sumN_s, sumN_congr (fun i hi => h i (by omega)), h n (by omega)]
theorem sumN_upd {f g : Nat → Nat} {t : Nat} (h : ∀ i, i ≠ t → g i = f i) : ∀ {n : Nat}, t < n → sumN g n + f t = sumN f n + g t
  | n + 1, hn => by
    rw [sumN_s, sumN_s]
    by_cases z : t = n
    · subst z
      have := sumN_congr (f := g) (g := f) (n := t) (fun i hi => h i (by omega))
      omega
    · have := sumN_upd h (n := n) (by omega)
      have := h n (fun y => z y.symm)
      omega
theorem sumN_cut (f : Nat → Nat) (i : Nat) : ∀ n, i ≤ n → sumN (fun x => f (if i ≤ x then x + 1 else x)) n + f i = sumN f (n + 1)
  | 0, h => by have : i = 0 := by omega
               subst this; simp [sumN]
  | n + 1, h => by
    rw [sumN_s, sumN_s f (n + 1)]
    by_cases z : i = n + 1
    · subst z
      have : sumN (fun x => f (if n + 1 ≤ x then x + 1 else x)) n = sumN f n := sumN_congr (fun x hx => by rw [if_neg (by omega)])
      rw [this, if_neg (by omega), sumN_s]
    · have := sumN_cut f i n (by omega)
      rw [if_pos (by omega)]; omega
theorem cntN_sum (q : Nat → Bool) : ∀ n, cntN q n = sumN (fun i => if q i = true then 1 else 0) n
  | 0 => rfl
  | n + 1 => by rw [cntN_s, sumN_s, cntN_sum q n]
theorem cntN_congr {q q' : Nat → Bool} {n : Nat} (h : ∀ i, i < n → q i = q' i) : cntN q n = cntN q' n := by
  rw [cntN_sum, cntN_sum]; exact sumN_congr (fun i hi => by rw [h i hi])
theorem allN_iff {q : Nat → Bool} {n : Nat} : allN q n = true ↔ ∀ j, j < n → q j = true := by
  unfold allN; simp
theorem anyN_iff {q : Nat → Bool} {n : Nat} : anyN q n = true ↔ ∃ j, j < n ∧ q j = true := by
  unfold anyN; simp
theorem allN_congr {q q' : Nat → Bool} {n : Nat} (h : ∀ i, i < n → q i = q' i) : allN q n = allN q' n := by
  rw [Bool.eq_iff_iff, allN_iff, allN_iff]
  exact ⟨fun g j hj => by rw [← h j hj]; exact g j hj, fun g j hj => by rw [h j hj]; exact g j hj⟩
theorem anyN_congr {q q' : Nat → Bool} {n : Nat} (h : ∀ i, i < n → q i = q' i) : anyN q n = anyN q' n := by
  rw [Bool.eq_iff_iff, anyN_iff, anyN_iff]
  exact ⟨fun ⟨j, hj, g⟩ => ⟨j, hj, by rw [← h j hj]; exact g⟩, fun ⟨j, hj, g⟩ => ⟨j, hj, by rw [h j hj]; exact g⟩⟩
/-! the class's invariant -/
def wA (c : Lg) (t q : Nat) : Nat := if (gN c 21 q 0 = 4 ∨ gN c 21 q 0 = 5) ∧ gN c 24 q 0 = t then 1 else 0
def wY (c : Lg) (t q : Nat) : Nat := if gN c 21 q 0 < 3 ∧ gN c 24 q 0 = t then 1 else 0
def wP (c : Lg) (q : Nat) : Nat := if gN c 21 q 0 = 0 ∨ gN c 21 q 0 = 4 then 1 else 0
def qs (c : Lg) (w : Nat → Nat) : Nat := sumN (fun i => w (gN c 31 0 i)) (gN c 3 2 0)
def pot (c : Lg) (t : Nat) : Nat := if gN c 16 t 0 = 0 then 12 else if gN c 16 t 0 = 1 then 6 else 0
def gA (c : Lg) : Prop := (2 ≤ gN c 0 0 0 ∧ gN c 0 0 0 ≤ 4) ∧ (gN c 3 0 0 ≤ 12 ∧ gN c 3 1 0 ≤ 150) ∧ (∀ k, k < gN c 3 0 0 → gN c 25 k 0 < gN c 0 0 0) ∧ (∀ t, t < gN c 3 1 0 → gN c 26 t 0 < gN c 0 0 0)
def gL (c : Lg) : Prop := ∀ w k, w < 4 → k < 12 → (gN c 0 0 0 ≤ w ∨ gN c 3 0 0 ≤ k) → gI c 7 w k = -4
def gC (c : Lg) : Prop := (∀ t k, gN c 3 0 0 ≤ k → gB c 10 t k = false) ∧ (∀ t, gN c 15 t 0 = cntN (gB c 10 t) (gN c 3 0 0))
def gK (c : Lg) : Prop := ∀ t, gN c 3 1 0 ≤ t → Df c t
def gD (c : Lg) : Prop := ∀ t, gN c 16 t 0 < 4 ∧ (gN c 16 t 0 = 0 → gN c 18 t 0 = 0) ∧ (gN c 16 t 0 = 1 → 0 < gN c 15 t 0) ∧ (gN c 16 t 0 ≠ 2 → gN c 17 t 0 = 0) ∧ gN c 18 t 0 ≤ 4
def gE (c : Lg) : Prop := ((∀ w o, gN c 0 0 0 ≤ o → gN c 6 w o = 0) ∧ (∀ t o, (gN c 0 0 0 ≤ o ∨ gN c 3 1 0 ≤ t) → gN c 9 t o = 0)) ∧ (∀ w, w < 4 → gN c 3 (3 + w) 0 = gN c 6 w 0 + gN c 6 w 1 + gN c 6 w 2 + gN c 6 w 3) ∧ (∀ w p, gN c 6 w p ≤ gN c 6 p p) ∧ (∀ t, t < gN c 3 1 0 → gN c 17 t 0 ≤ gN c 6 (gN c 26 t 0) (gN c 26 t 0)) ∧ gN c 6 0 0 + gN c 6 1 1 + gN c 6 2 2 + gN c 6 3 3 = cntN (fun t => decide (0 < gN c 17 t 0)) (gN c 3 1 0) ∧ (∀ t t', t < gN c 3 1 0 → t' < gN c 3 1 0 → gN c 26 t 0 = gN c 26 t' 0 → gN c 17 t 0 = gN c 17 t' 0 → 0 < gN c 17 t 0 → t = t') ∧ (∀ w i, w < 4 → i < gN c 3 (3 + w) 0 → gN c 30 w i < gN c 3 1 0 ∧ 0 < gN c 17 (gN c 30 w i) 0 ∧ gN c 17 (gN c 30 w i) 0 ≤ gN c 6 w (gN c 26 (gN c 30 w i) 0))
def gM1 (c : Lg) (q : Nat) : Prop := q < gN c 32 0 0 ∧ gN c 21 q 0 < 6 ∧ gN c 22 q 0 < gN c 0 0 0 ∧ gN c 23 q 0 < gN c 0 0 0 ∧ gN c 24 q 0 < gN c 3 1 0 ∧ (gN c 21 q 0 = 4 → gN c 22 q 0 = gN c 26 (gN c 24 q 0) 0 ∧ gN c 23 q 0 ≠ gN c 26 (gN c 24 q 0) 0 ∧ gN c 6 (gN c 23 q 0) (gN c 26 (gN c 24 q 0) 0) < gN c 17 (gN c 24 q 0) 0)
def gF (c : Lg) : Prop := (∀ i, i < gN c 3 2 0 → gM1 c (gN c 31 0 i)) ∧ (∀ i j, i < gN c 3 2 0 → j < gN c 3 2 0 → gN c 21 (gN c 31 0 i) 0 = 4 → gN c 21 (gN c 31 0 j) 0 = 4 → gN c 23 (gN c 31 0 i) 0 = gN c 23 (gN c 31 0 j) 0 → gN c 24 (gN c 31 0 i) 0 = gN c 24 (gN c 31 0 j) 0 → i = j)
def gG (c : Lg) (xa xy : Nat → Nat) (xp xq : Nat) : Prop := (∀ t, gN c 20 t 0 + qs c (wA c t) + xa t + 1 ≤ gN c 0 0 0 ∧ (gN c 17 t 0 = 0 → gN c 20 t 0 + qs c (wA c t) + xa t = 0)) ∧ (∀ t, gN c 19 t 0 + qs c (wY c t) + xy t ≤ 4 ∧ (gN c 16 t 0 = 0 → gN c 19 t 0 + qs c (wY c t) + xy t = 0)) ∧ gN c 32 0 0 + sumN (pot c) (gN c 3 1 0) + qs c (wP c) + xp ≤ 12 * gN c 3 1 0 ∧ 2 * gN c 3 2 0 + sumN (pot c) (gN c 3 1 0) + xq ≤ 12 * gN c 3 1 0
def z0 : Nat → Nat := fun _ => 0
def GX (c : Lg) (xa xy : Nat → Nat) (xp xq : Nat) : Prop := gA c ∧ gL c ∧ gC c ∧ gK c ∧ gD c ∧ gE c ∧ gF c ∧ gG c xa xy xp xq
def GI (c : Lg) : Prop := GX c z0 z0 0 0
/-! what follows from it -/
theorem gE.le {c : Lg} (hA : gA c) (h : gE c) : ∀ w j, gN c 6 w j ≤ 150 := by
  obtain ⟨⟨e1, -⟩, -, e4, -, e6, -⟩ := h
  have := cntN_le (fun t => decide (0 < gN c 17 t 0)) (gN c 3 1 0)
  have h2 := hA.2.1.2
  intro w j
  by_cases z : gN c 0 0 0 ≤ j
  · rw [e1 w j z]; omega
  · have := e4 w j
    have h4 := hA.1.2
    match j, z with
    | 0, _ => omega
    | 1, _ => omega
    | 2, _ => omega
    | 3, _ => omega
    | n + 4, z => omega
theorem gE.cm {c : Lg} (hA : gA c) (h : gE c) {w : Nat} (hw : w < 4) : gN c 3 (3 + w) 0 ≤ cntN (fun t => decide (0 < gN c 17 t 0)) (gN c 3 1 0) := by
  obtain ⟨-, e3, e4, -, e6, -⟩ := h
  have := e3 w hw
  have h0 := e4 w 0; have h1 := e4 w 1; have h2 := e4 w 2; have h3 := e4 w 3
  omega
theorem cnt_lt {q : Nat → Bool} {t : Nat} (h : q t = false) : ∀ {n : Nat}, t < n → cntN q n < n
  | n + 1, hn => by
    rw [cntN_s]
    by_cases z : t = n
    · subst z; rw [h]; have := cntN_le q t; simp; omega
    · have := cnt_lt h (n := n) (by omega)
      split <;> omega
theorem GX.okm {c : Lg} {xa xy : Nat → Nat} {xp xq : Nat} (h : GX c xa xy xp xq) : Okm c := by
  obtain ⟨hA, -, -, -, -, hE, -, -, -, hp, hq⟩ := h
  have h2 := hA.2.1.2
  refine ⟨⟨by omega, by omega⟩, fun w hw => ?_, fun w j => ?_⟩
  · have := hE.cm hA hw
    have := cntN_le (fun t => decide (0 < gN c 17 t 0)) (gN c 3 1 0)
    omega
  · have := hE.le hA w j; omega
theorem GX.okc {c : Lg} {xa xy : Nat → Nat} {xp xq : Nat} (h : GX c xa xy xp xq) : Okc c := by
  refine ⟨h.okm, fun t => ?_⟩
  obtain ⟨hA, -, -, -, -, -, -, ha, hy, -⟩ := h
  have := (ha t).1; have := (hy t).1; have := hA.1.2
  omega
/-! frames: what the parts look at -/
theorem gA.fr {c c' : Lg} (h : gA c) (h0 : gN c' 0 = gN c 0) (h30 : gN c' 3 0 0 = gN c 3 0 0) (h31 : gN c' 3 1 0 = gN c 3 1 0) (h25 : gN c' 25 = gN c 25) (h26 : gN c' 26 = gN c 26) : gA c' := by
  unfold gA at *; rw [h0, h30, h31, h25, h26]; exact h
theorem gL.fr {c c' : Lg} (h : gL c) (h0 : gN c' 0 = gN c 0) (h30 : gN c' 3 0 0 = gN c 3 0 0) (hI : gI c' = gI c) : gL c' := by
  unfold gL at *; rw [h0, h30, hI]; exact h
theorem gC.fr {c c' : Lg} (h : gC c) (h30 : gN c' 3 0 0 = gN c 3 0 0) (hB : gB c' 10 = gB c 10) (h15 : gN c' 15 = gN c 15) : gC c' := by
  unfold gC at *; rw [h30, hB, h15]; exact h
theorem gK.fr {c c' : Lg} (h : gK c) (h31 : gN c' 3 1 0 = gN c 3 1 0) (hB : ∀ t, gN c 3 1 0 ≤ t → gB c' 10 t = gB c 10 t ∧ gB c' 13 t = gB c 13 t ∧ gB c' 14 t = gB c 14 t) (hJ : ∀ t, gN c 3 1 0 ≤ t → gJ c' 11 t = gJ c 11 t ∧ gJ c' 12 t = gJ c 12 t) (hN : ∀ n t, 15 ≤ n → n ≤ 20 → gN c 3 1 0 ≤ t → gN c' n t 0 = gN c n t 0) : gK c' := by
  intro t ht
  rw [h31] at ht
  obtain ⟨b1, b2, b3⟩ := hB t ht
  obtain ⟨j1, j2⟩ := hJ t ht
  unfold Df
  rw [b1, b2, b3, j1, j2, hN 15 t (by decide) (by decide) ht, hN 16 t (by decide) (by decide) ht, hN 17 t (by decide) (by decide) ht, hN 18 t (by decide) (by decide) ht, hN 19 t (by decide) (by decide) ht, hN 20 t (by decide) (by decide) ht]
  exact h t ht
theorem gD.fr {c c' : Lg} (h : gD c) (h15 : gN c' 15 = gN c 15) (h16 : gN c' 16 = gN c 16) (h17 : gN c' 17 = gN c 17) (h18 : gN c' 18 = gN c 18) : gD c' := by
  unfold gD at *; rw [h15, h16, h17, h18]; exact h
theorem gE.fr {c c' : Lg} (h : gE c) (h0 : gN c' 0 = gN c 0) (h31 : gN c' 3 1 0 = gN c 3 1 0) (h3 : ∀ w, w < 4 → gN c' 3 (3 + w) 0 = gN c 3 (3 + w) 0) (h6 : gN c' 6 = gN c 6) (h9 : gN c' 9 = gN c 9) (h17 : gN c' 17 = gN c 17) (h26 : gN c' 26 = gN c 26) (h30 : gN c' 30 = gN c 30) : gE c' := by
  obtain ⟨e1, e3, e4, e5, e6, e7, e8⟩ := h
  refine ⟨by rw [h0, h6, h9, h31]; exact e1, fun w hw => by rw [h3 w hw, h6]; exact e3 w hw, by rw [h6]; exact e4, by rw [h31, h17, h6, h26]; exact e5, by rw [h31, h17, h6]; exact e6, by rw [h31, h17, h26]; exact e7, fun w i hw hi => ?_⟩
  rw [h3 w hw] at hi
  rw [h31, h17, h6, h26, h30]; exact e8 w i hw hi
theorem gF.fr {c c' : Lg} (h : gF c) (h0 : gN c' 0 = gN c 0) (h31 : gN c' 3 1 0 = gN c 3 1 0) (h32 : gN c' 3 2 0 = gN c 3 2 0) (h6 : gN c' 6 = gN c 6) (h17 : gN c' 17 = gN c 17) (h21 : gN c' 21 = gN c 21) (h22 : gN c' 22 = gN c 22) (h23 : gN c' 23 = gN c 23) (h24 : gN c' 24 = gN c 24) (h26 : gN c' 26 = gN c 26) (h31' : gN c' 31 = gN c 31) (hM : gN c' 32 = gN c 32) : gF c' := by
  unfold gF gM1 at *; rw [h0, h31, h32, h6, h17, h21, h22, h23, h24, h26, h31', hM]; exact h
theorem gG.fr {c c' : Lg} {xa xy : Nat → Nat} {xp xq : Nat} (h : gG c xa xy xp xq) (h0 : gN c' 0 = gN c 0) (h31 : gN c' 3 1 0 = gN c 3 1 0) (h32 : gN c' 3 2 0 = gN c 3 2 0) (h16 : gN c' 16 = gN c 16) (h17 : gN c' 17 = gN c 17) (h19 : gN c' 19 = gN c 19) (h20 : gN c' 20 = gN c 20) (h21 : gN c' 21 = gN c 21) (h24 : gN c' 24 = gN c 24) (h31' : gN c' 31 = gN c 31) (hM : gN c' 32 = gN c 32) : gG c' xa xy xp xq := by
  unfold gG qs wA wY wP pot at *; rw [h0, h31, h32, h16, h17, h19, h20, h21, h24, h31', hM]; exact h
theorem GX.I {c c' : Lg} {xa xy : Nat → Nat} {xp xq : Nat} (h : GX c xa xy xp xq) (hN : gN c' = gN c) (hB : gB c' = gB c) (hJ : gJ c' = gJ c) (hL : gL c') : GX c' xa xy xp xq := by
  obtain ⟨a, l, cc, k, d, e, f, g⟩ := h
  refine ⟨a.fr ?_ ?_ ?_ ?_ ?_, hL, cc.fr ?_ ?_ ?_, k.fr ?_ ?_ ?_ ?_, d.fr ?_ ?_ ?_ ?_, e.fr ?_ ?_ ?_ ?_ ?_ ?_ ?_ ?_, f.fr ?_ ?_ ?_ ?_ ?_ ?_ ?_ ?_ ?_ ?_ ?_ ?_, g.fr ?_ ?_ ?_ ?_ ?_ ?_ ?_ ?_ ?_ ?_ ?_⟩
  all_goals first | (rw [hN]; done) | (rw [hB]; done) | (intro t ht; rw [hB]; exact ⟨rfl, rfl, rfl⟩) | (intro t ht; rw [hJ]; exact ⟨rfl, rfl⟩) | (intros; rw [hN]; done)
theorem gG.weak {c : Lg} {xa xy ya yy : Nat → Nat} {xp xq yp yq : Nat} (h : gG c xa xy xp xq) (ha : ∀ t, ya t ≤ xa t) (hy : ∀ t, yy t ≤ xy t) (hp : yp ≤ xp) (hq : yq ≤ xq) : gG c ya yy yp yq := by
  obtain ⟨h1, h2, h3, h4⟩ := h
  refine ⟨fun t => ?_, fun t => ?_, by omega, by omega⟩
  · have := h1 t; have := ha t; exact ⟨by omega, fun z => by have := this; have := (h1 t).2 z; omega⟩
  · have := h2 t; have := hy t; exact ⟨by omega, fun z => by have := this; have := (h2 t).2 z; omega⟩
theorem GX.weak {c : Lg} {xa xy ya yy : Nat → Nat} {xp xq yp yq : Nat} (h : GX c xa xy xp xq) (ha : ∀ t, ya t ≤ xa t) (hy : ∀ t, yy t ≤ xy t) (hp : yp ≤ xp) (hq : yq ≤ xq) : GX c ya yy yp yq :=
  ⟨h.1, h.2.1, h.2.2.1, h.2.2.2.1, h.2.2.2.2.1, h.2.2.2.2.2.1, h.2.2.2.2.2.2.1, h.2.2.2.2.2.2.2.weak ha hy hp hq⟩
theorem GX.gi {c : Lg} {xa xy : Nat → Nat} {xp xq : Nat} (h : GX c xa xy xp xq) : GI c := h.weak (fun _ => Nat.zero_le _) (fun _ => Nat.zero_le _) (Nat.zero_le _) (Nat.zero_le _)

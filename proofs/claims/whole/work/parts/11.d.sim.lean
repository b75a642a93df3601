/-! telling the others, telling the homes -/
def rr (n p i : Nat) : Nat := n - i - (if i ≤ p then 1 else 0)
theorem rr_s {n p i : Nat} (hp : p < n) (hi : i < n) (h : i ≠ p) : rr n p i = rr n p (i + 1) + 1 := by
  unfold rr
  by_cases z : i ≤ p
  · rw [if_pos z, if_pos (by omega)]; omega
  · rw [if_neg z, if_neg (by omega)]; omega
theorem rr_p {n p i : Nat} (hi : i < n) (h : i = p) : rr n p i = rr n p (i + 1) := by
  unfold rr; subst h; rw [if_pos (Nat.le_refl _), if_neg (by omega)]; omega
theorem rr_0 {n p : Nat} : rr n p 0 = n - 1 := by unfold rr; rw [if_pos (Nat.zero_le _)]; omega
theorem rr_le {n p i : Nat} (hp : p < n) (hi : i < n) : rr n p (i + 1) ≤ rr n p i := by
  by_cases z : i = p
  · rw [rr_p hi z]; exact Nat.le_refl _
  · rw [rr_s hp hi z]; omega
def sa (t r : Nat) : Nat → Nat := fun z => if z = t then r else 0
theorem GX.toO {c : Lg} {xy : Nat → Nat} {t : Nat} (ht : t < gN c 3 1 0) (h : GX c (sa t (gN c 0 0 0 - 1)) xy (2 * (gN c 0 0 0 - 1)) (2 * (gN c 0 0 0 - 1))) (hno : ∀ j, j < gN c 3 2 0 → gN c 21 (gN c 31 0 j) 0 = 4 → gN c 24 (gN c 31 0 j) 0 ≠ t) (hlt : ∀ w, w < gN c 0 0 0 → w ≠ gN c 26 t 0 → gN c 6 w (gN c 26 t 0) < gN c 17 t 0) : ∀ i, i ≤ gN c 0 0 0 → GX (cToO c t 4 i) (sa t (rr (gN c 0 0 0) (gN c 26 t 0) i)) xy (2 * rr (gN c 0 0 0) (gN c 26 t 0) i) (2 * rr (gN c 0 0 0) (gN c 26 t 0) i) ∧ (∀ j, j < gN (cToO c t 4 i) 3 2 0 → gN (cToO c t 4 i) 21 (gN (cToO c t 4 i) 31 0 j) 0 = 4 → gN (cToO c t 4 i) 24 (gN (cToO c t 4 i) 31 0 j) 0 = t → gN (cToO c t 4 i) 23 (gN (cToO c t 4 i) 31 0 j) 0 < i)
  | 0, _ => by
    rw [rr_0]; exact ⟨h, fun j hj a b => absurd b (hno j hj a)⟩
  | i + 1, hi => by
    obtain ⟨ih, iq⟩ := GX.toO ht h hno hlt i (by omega)
    have hp := h.1.2.2.2 t ht
    have e0 : gN (cToO c t 4 i) 0 = gN c 0 := cToO_N _ _ _ (by decide) _
    have e26 : gN (cToO c t 4 i) 26 = gN c 26 := cToO_N _ _ _ (by decide) _
    have e6 : gN (cToO c t 4 i) 6 = gN c 6 := cToO_N _ _ _ (by decide) _
    have e17 : gN (cToO c t 4 i) 17 = gN c 17 := cToO_N _ _ _ (by decide) _
    have e31 : gN (cToO c t 4 i) 3 1 0 = gN c 3 1 0 := cToO_3 _ _ _ (by decide) _
    rw [cToO_s, e26]
    by_cases z : i = gN c 26 t 0
    · rw [if_pos z, ← rr_p (by omega) z]
      exact ⟨ih, fun j hj a b => by have := iq j hj a b; omega⟩
    · rw [if_neg z]
      have hr := rr_s (n := gN c 0 0 0) hp (show i < gN c 0 0 0 by omega) z
      generalize hC : cToO c t 4 i = C at *
      rw [hr] at ih
      refine ⟨GX.post (xp := 2 * rr (gN c 0 0 0) (gN c 26 t 0) (i + 1)) (xq := 2 * rr (gN c 0 0 0) (gN c 26 t 0) (i + 1)) (ih.weak (fun _ => Nat.le_refl _) (fun _ => Nat.le_refl _) (by simp [nP]; omega) (by omega)) (by decide) (by rw [e0]; exact hp) (by rw [e0]; omega) (by rw [e31]; exact ht) (fun _ => ?_) (fun y => ?_) (fun y => by simp [nY]), fun j hj => ?_⟩
      · rw [e26, e6, e17]
        exact ⟨rfl, z, hlt i (by omega) z, fun j hj a b d => by have := iq j hj a d; omega⟩
      · unfold sa nA
        by_cases q : y = t
        · rw [if_pos q, if_pos q, if_pos ⟨Or.inl rfl, q.symm⟩]
        · rw [if_neg q, if_neg q, if_neg (fun w => q w.2.symm)]
      · rw [cPost_3, if_pos ⟨rfl, rfl⟩] at hj
        rw [cPost_31]
        by_cases q : j = gN C 3 2 0
        · rw [if_pos q, cPost_21, cPost_23, cPost_24, if_pos rfl, if_pos rfl, if_pos rfl]; intros; omega
        · have hjl : j < gN C 3 2 0 := by omega
          have hne : gN C 31 0 j ≠ gN C 32 0 0 := by have := (ih.2.2.2.2.2.2.1.1 j hjl).1; omega
          rw [if_neg q, cPost_21, cPost_23, cPost_24, if_neg hne, if_neg hne, if_neg hne]
          intro a b; have := iq j hjl a b; omega
theorem cHas_N {c c' : Lg} (h3 : gN c' 3 0 0 = gN c 3 0 0) (h25 : gN c' 25 = gN c 25) (hB : gB c' = gB c) (t w : Nat) : cHasHome c' t w = cHasHome c t w := by
  unfold cHasHome cPlQ; rw [h3, h25, hB]
theorem GX.toH {c : Lg} {xa xy : Nat → Nat} {t x : Nat} (hx : x = 0 ∨ x = 3) (ht : t < gN c 3 1 0) (h : GX c xa (fun z => xy z + nY x t z * (gN c 0 0 0 - 1)) (2 * (gN c 0 0 0 - 1)) (2 * (gN c 0 0 0 - 1))) : ∀ i, i ≤ gN c 0 0 0 → GX (cToH c t x i) xa (fun z => xy z + nY x t z * rr (gN c 0 0 0) (gN c 26 t 0) i) (2 * rr (gN c 0 0 0) (gN c 26 t 0) i) (2 * rr (gN c 0 0 0) (gN c 26 t 0) i)
  | 0, _ => by rw [rr_0]; exact h
  | i + 1, hi => by
    have ih := GX.toH hx ht h i (by omega)
    have hp := h.1.2.2.2 t ht
    have e0 : gN (cToH c t x i) 0 = gN c 0 := cToH_N _ _ _ (by decide) _
    have e26 : gN (cToH c t x i) 26 = gN c 26 := cToH_N _ _ _ (by decide) _
    have e31 : gN (cToH c t x i) 3 1 0 = gN c 3 1 0 := cToH_3 _ _ _ (by decide) _
    have hle := rr_le (n := gN c 0 0 0) (i := i) hp (by omega)
    rw [cToH_s]
    by_cases z : cHeQ (cToH c t x i) t i = true
    · rw [if_pos z, e26]
      have zi : i ≠ gN c 26 t 0 := by
        unfold cHeQ at z; rw [e26] at z; simp at z; exact z.1
      have hr := rr_s (n := gN c 0 0 0) hp (show i < gN c 0 0 0 by omega) zi
      generalize cToH c t x i = C at *
      rw [hr] at ih
      have hnp : nP x ≤ 1 := by unfold nP; split <;> omega
      refine GX.post (xp := 2 * rr (gN c 0 0 0) (gN c 26 t 0) (i + 1)) (xq := 2 * rr (gN c 0 0 0) (gN c 26 t 0) (i + 1)) (ih.weak (fun _ => Nat.le_refl _) (fun _ => Nat.le_refl _) (by omega) (by omega)) (by omega) (by rw [e0]; exact hp) (by rw [e0]; omega) (by rw [e31]; exact ht) (fun y => by omega) (fun y => by unfold nA; rw [if_neg (by omega)]; rfl) (fun y => by rw [Nat.mul_add, Nat.mul_one]; omega)
    · rw [if_neg z]
      exact ih.weak (fun _ => Nat.le_refl _) (fun y => Nat.add_le_add_left (Nat.mul_le_mul_left _ hle) _) (by omega) (by omega)
theorem pot_of {c : Lg} {t v : Nat} (h : gN c 16 t 0 = v) : pot c t = pv v := by unfold pot pv; rw [h]
/-! committing -/
theorem GI.mk {c : Lg} (h : GI c) {t : Nat} (ht : t < gN c 3 1 0) (hs : gN c 16 t 0 = 0 ∨ gN c 16 t 0 = 1) : GI (cMk c t) := by
  have h17 : gN c 17 t 0 = 0 := (h.2.2.2.2.1 t).2.2.2.1 (by omega)
  have hp : 6 ≤ pot c t := by rcases hs with z | z <;> rw [pot_of z] <;> simp [pv]
  unfold cMk; split
  · have hc := GX.com h ht h17 hp
    have e0 : gN (cM3 c t) 0 = gN c 0 := cM3_N _ _ (by decide)
    have e31 : gN (cM3 c t) 3 1 0 = gN c 3 1 0 := by rw [cM3_3, if_neg (by omega)]
    have e32 : gN (cM3 c t) 3 2 0 = gN c 3 2 0 := by rw [cM3_3, if_neg (by omega)]
    have e26 : gN (cM3 c t) 26 = gN c 26 := cM3_N _ _ (by decide)
    have hn := h.1.1
    have hp4 := h.1.2.2.2 t ht
    refine (GX.toO (c := cM3 c t) (xy := z0) (t := t) (by rw [e31]; exact ht) ?_ (fun j hj a b => ?_) (fun w hw hne => ?_) (gN (cM3 c t) 0 0 0) (Nat.le_refl _)).1.gi
    · rw [e0]
      exact hc.weak (fun z => by unfold sa z0; split <;> rename_i q <;> simp [q]) (fun _ => Nat.le_refl _) (by omega) (by omega)
    · rw [e32] at hj
      rw [cM3_N _ _ (n := 21) (by decide), cM3_N _ _ (n := 31) (by decide)] at a
      rw [cM3_N _ _ (n := 24) (by decide), cM3_N _ _ (n := 31) (by decide)] at b
      have := (h.2.2.2.2.2.2.1.1 j hj).2.2.2.2.2 a
      rw [b] at this; omega
    · rw [e0] at hw; rw [e26] at hne
      rw [e26, cM3_6, cM3_17, if_neg (fun q => hne q.1), if_pos ⟨rfl, rfl⟩]
      have := h.2.2.2.2.2.1.2.2.1 w (gN c 26 t 0); omega
  · refine (GX.st h (v := 2) (yy := z0) (yp := 0) (yq := 0) ht (by decide) (by decide) (fun z => by omega) (fun z => absurd rfl z) (fun _ _ => rfl) (h.2.2.2.2.2.2.2.2.1 t).1 (by simp [pv]) (by simp [pv]))
theorem gG.n19 {c : Lg} {xa xy yy : Nat → Nat} {xp xq : Nat} (h : gG c xa xy xp xq) {t : Nat} (hy : ∀ z, xy z = yy z + (if z = t then 1 else 0)) : gG (uN c 19 t 0 (gN c 19 t 0 + 1)) xa yy xp xq := by
  obtain ⟨h1, h2, h3, h4⟩ := h
  have nn : ∀ {n : Nat}, n ≠ 19 → gN (uN c 19 t 0 (gN c 19 t 0 + 1)) n = gN c n := fun hn => gN_f _ _ _ _ _ hn
  unfold gG qs wA wY wP pot at *
  rw [nn (n := 0) (by decide), nn (n := 3) (by decide), nn (n := 16) (by decide), nn (n := 17) (by decide), nn (n := 20) (by decide), nn (n := 21) (by decide), nn (n := 24) (by decide), nn (n := 31) (by decide), nn (n := 32) (by decide)]
  refine ⟨h1, fun z => ?_, h3, h4⟩
  have := h2 z; have h5 := hy z
  rw [gN_uN]
  by_cases q : z = t
  · subst q; rw [if_pos ⟨rfl, rfl, rfl⟩]; rw [if_pos rfl] at h5; exact ⟨by omega, fun y => by have := this.2 y; omega⟩
  · rw [if_neg (fun w => q w.2.1)]; rw [if_neg q] at h5; exact ⟨by omega, fun y => by have := this.2 y; omega⟩
theorem GX.f19 {c : Lg} {xa xy yy : Nat → Nat} {xp xq : Nat} (h : GX c xa xy xp xq) {t : Nat} (ht : t < gN c 3 1 0) (hy : ∀ z, xy z = yy z + (if z = t then 1 else 0)) : GX (uN c 19 t 0 (gN c 19 t 0 + 1)) xa yy xp xq := by
  obtain ⟨a, l, cc, k, d, e, ff, g⟩ := h
  have nn : ∀ {n : Nat}, n ≠ 19 → gN (uN c 19 t 0 (gN c 19 t 0 + 1)) n = gN c n := fun hn => gN_f _ _ _ _ _ hn
  have n3 : gN (uN c 19 t 0 (gN c 19 t 0 + 1)) 3 = gN c 3 := nn (by decide)
  exact ⟨a.fr (nn (by decide)) (by rw [n3]) (by rw [n3]) (nn (by decide)) (nn (by decide)), l.fr (nn (by decide)) (by rw [n3]) rfl, cc.fr (by rw [n3]) rfl (nn (by decide)), k.st (by decide) ht, d.fr (nn (by decide)) (nn (by decide)) (nn (by decide)) (nn (by decide)), e.fr (nn (by decide)) (by rw [n3]) (fun w hw => by rw [n3]) (nn (by decide)) (nn (by decide)) (nn (by decide)) (nn (by decide)) (nn (by decide)), ff.fr (nn (by decide)) (by rw [n3]) (by rw [n3]) (nn (by decide)) (nn (by decide)) (nn (by decide)) (nn (by decide)) (nn (by decide)) (nn (by decide)) (nn (by decide)) (nn (by decide)) (nn (by decide)), g.n19 hy⟩
theorem gG.n20 {c : Lg} {xa xy ya : Nat → Nat} {xp xq : Nat} (h : gG c xa xy xp xq) {t : Nat} (ha : ∀ z, xa z = ya z + (if z = t then 1 else 0)) : gG (uN c 20 t 0 (gN c 20 t 0 + 1)) ya xy xp xq := by
  obtain ⟨h1, h2, h3, h4⟩ := h
  have nn : ∀ {n : Nat}, n ≠ 20 → gN (uN c 20 t 0 (gN c 20 t 0 + 1)) n = gN c n := fun hn => gN_f _ _ _ _ _ hn
  unfold gG qs wA wY wP pot at *
  rw [nn (n := 0) (by decide), nn (n := 3) (by decide), nn (n := 16) (by decide), nn (n := 17) (by decide), nn (n := 19) (by decide), nn (n := 21) (by decide), nn (n := 24) (by decide), nn (n := 31) (by decide), nn (n := 32) (by decide)]
  refine ⟨fun z => ?_, h2, h3, h4⟩
  have := h1 z; have h5 := ha z
  rw [gN_uN]
  by_cases q : z = t
  · subst q; rw [if_pos ⟨rfl, rfl, rfl⟩]; rw [if_pos rfl] at h5; exact ⟨by omega, fun y => by have := this.2 y; omega⟩
  · rw [if_neg (fun w => q w.2.1)]; rw [if_neg q] at h5; exact ⟨by omega, fun y => by have := this.2 y; omega⟩
theorem GX.f20 {c : Lg} {xa xy ya : Nat → Nat} {xp xq : Nat} (h : GX c xa xy xp xq) {t : Nat} (ht : t < gN c 3 1 0) (ha : ∀ z, xa z = ya z + (if z = t then 1 else 0)) : GX (uN c 20 t 0 (gN c 20 t 0 + 1)) ya xy xp xq := by
  obtain ⟨a, l, cc, k, d, e, ff, g⟩ := h
  have nn : ∀ {n : Nat}, n ≠ 20 → gN (uN c 20 t 0 (gN c 20 t 0 + 1)) n = gN c n := fun hn => gN_f _ _ _ _ _ hn
  have n3 : gN (uN c 20 t 0 (gN c 20 t 0 + 1)) 3 = gN c 3 := nn (by decide)
  exact ⟨a.fr (nn (by decide)) (by rw [n3]) (by rw [n3]) (nn (by decide)) (nn (by decide)), l.fr (nn (by decide)) (by rw [n3]) rfl, cc.fr (by rw [n3]) rfl (nn (by decide)), k.st (by decide) ht, d.fr (nn (by decide)) (nn (by decide)) (nn (by decide)) (nn (by decide)), e.fr (nn (by decide)) (by rw [n3]) (fun w hw => by rw [n3]) (nn (by decide)) (nn (by decide)) (nn (by decide)) (nn (by decide)) (nn (by decide)), ff.fr (nn (by decide)) (by rw [n3]) (by rw [n3]) (nn (by decide)) (nn (by decide)) (nn (by decide)) (nn (by decide)) (nn (by decide)) (nn (by decide)) (nn (by decide)) (nn (by decide)) (nn (by decide)), g.n20 ha⟩
theorem GX.f13 {c : Lg} {xa xy : Nat → Nat} {xp xq : Nat} (h : GX c xa xy xp xq) {t w : Nat} (ht : t < gN c 3 1 0) : GX (uB c 13 t w true) xa xy xp xq := by
  obtain ⟨a, l, cc, k, d, e, ff, g⟩ := h
  refine ⟨a, l, cc, ?_, d, e, ff, g⟩
  refine gK.fr (c := c) k rfl (fun z hz => ⟨rfl, ?_, rfl⟩) (fun _ _ => ⟨rfl, rfl⟩) (fun _ _ _ _ _ => rfl)
  funext j; rw [gB_uB, if_neg (by omega)]
/-! a message is received -/
theorem GI.recv {c : Lg} (h : GI c) {i : Nat} (hi : i < gN c 3 2 0) (hcan : cCanCome c (gN c 31 0 i) = true) : GI (cDl c i) := by
  have hR := GX.rem h hi
  have hm := h.2.2.2.2.2.2.1.1 i hi
  have hfq := h.2.2.2.2.2.2.1.2
  generalize hq : gN c 31 0 i = q at *
  obtain ⟨-, m21, m22, m23, m24, m4⟩ := hm
  unfold cDl
  rw [hq]
  have nn : ∀ {n : Nat}, (n ≠ 3 ∧ n ≠ 31) → gN (cRem c i) n = gN c n := fun hn => cRem_N _ _ hn
  have n3 : ∀ j, j ≠ 2 → gN (cRem c i) 3 j 0 = gN c 3 j 0 := fun j hj => by rw [cRem_3, if_neg (fun z => hj z.1)]
  have e32 : gN (cRem c i) 3 2 0 = gN c 3 2 0 - 1 := by rw [cRem_3, if_pos ⟨rfl, rfl⟩]
  have r31 : ∀ x, x < gN (cRem c i) 3 2 0 → ∃ y, y < gN c 3 2 0 ∧ y ≠ i ∧ gN (cRem c i) 31 0 x = gN c 31 0 y := by
    intro x hx; rw [e32] at hx; rw [cRem_31]
    by_cases z : i ≤ x
    · exact ⟨x + 1, by omega, by omega, by rw [if_pos z]⟩
    · exact ⟨x, by omega, by omega, by rw [if_neg z]⟩
  have c21 : gN (cRem c i) 21 q 0 = gN c 21 q 0 := by rw [nn (by decide)]
  have c22 : gN (cRem c i) 22 q 0 = gN c 22 q 0 := by rw [nn (by decide)]
  have c23 : gN (cRem c i) 23 q 0 = gN c 23 q 0 := by rw [nn (by decide)]
  have c24 : gN (cRem c i) 24 q 0 = gN c 24 q 0 := by rw [nn (by decide)]
  have d0 : gN (cRem c i) 0 = gN c 0 := nn (by decide)
  have d6 : gN (cRem c i) 6 = gN c 6 := nn (by decide)
  have d16 : gN (cRem c i) 16 = gN c 16 := nn (by decide)
  have d17 : gN (cRem c i) 17 = gN c 17 := nn (by decide)
  have d26 : gN (cRem c i) 26 = gN c 26 := nn (by decide)
  have d31 : gN (cRem c i) 3 1 0 = gN c 3 1 0 := n3 1 (by decide)
  have hno4 : gN c 21 q 0 = 4 → ∀ x, x < gN (cRem c i) 3 2 0 → gN (cRem c i) 21 (gN (cRem c i) 31 0 x) 0 = 4 → gN (cRem c i) 23 (gN (cRem c i) 31 0 x) 0 = gN c 23 q 0 → gN (cRem c i) 24 (gN (cRem c i) 31 0 x) 0 = gN c 24 q 0 → False := by
    intro z x hx a b d
    obtain ⟨y, hy, hne, ey⟩ := r31 x hx
    rw [ey, nn (n := 21) (by decide)] at a
    rw [ey, nn (n := 23) (by decide)] at b
    rw [ey, nn (n := 24) (by decide)] at d
    exact hne (hfq y i hy hi a (by rw [hq]; exact z) (by rw [hq]; exact b) (by rw [hq]; exact d))
  generalize hC : cRem c i = C at *
  have ht : gN C 24 q 0 < gN C 3 1 0 := by rw [c24, d31]; exact m24
  unfold cRecv
  rw [c21]
  have wAv : ∀ z, wA c z q = nA (gN c 21 q 0) (gN c 24 q 0) z := fun z => rfl
  have wYv : ∀ z, wY c z q = nY (gN c 21 q 0) (gN c 24 q 0) z := fun z => rfl
  have wPv : wP c q = nP (gN c 21 q 0) := rfl
  simp only [wAv, wYv, wPv] at hR
  by_cases z0' : gN c 21 q 0 = 0
  · -- ASK
    rw [if_pos z0']
    rw [z0'] at hR
    unfold cAsk; split
    · exact hR.gi
    · split
      · have hL := hR.lock (gN C 24 q 0) (gN C 23 q 0) (n := gN C 3 0 0) rfl
        refine (GX.post (ya := z0) (yy := z0) (xp := 0) (xq := 0) (hL.weak (fun _ => Nat.le_refl _) (fun _ => Nat.le_refl _) (by simp [nP]) (by omega)) (by decide) ?_ ?_ ?_ (fun y => by omega) (fun z => by simp [nA, z0]) (fun z => ?_)).gi
        · rw [cLock_N, c23, d0]; exact m23
        · rw [cLock_N, c22, d0]; exact m22
        · rw [cLock_N]; exact ht
        · rw [cLock_N, c24]; simp [nY, z0]
      · refine (GX.post (ya := z0) (yy := z0) (xp := 0) (xq := 0) (hR.weak (fun _ => Nat.le_refl _) (fun _ => Nat.le_refl _) (by simp [nP]) (by omega)) (by decide) ?_ ?_ ht (fun y => by omega) (fun z => by simp [nA, z0]) (fun z => ?_)).gi
        · rw [c23, d0]; exact m23
        · rw [c22, d0]; exact m22
        · rw [c24]; simp [nY, z0]
  rw [if_neg z0']
  by_cases z1 : gN c 21 q 0 = 1
  · -- YES
    rw [if_pos z1]
    rw [z1] at hR
    have h19 := GX.f19 (yy := z0) hR ht (fun z => by rw [c24]; simp [nY, z0, eq_comm])
    unfold cYes; split
    · rename_i hs; split
      · refine GI.mk h19.gi (by rw [gN_f _ _ _ _ _ (by decide)]; exact ht) (Or.inr ?_)
        rw [gN_f _ _ _ _ _ (by decide)]; exact hs
      · exact h19.gi
    · exact h19.gi
  rw [if_neg z1]
  by_cases z2 : gN c 21 q 0 = 2
  · -- NO
    rw [if_pos z2]
    unfold cNo; split
    · rename_i hs
      have h17 : gN C 17 (gN C 24 q 0) 0 = 0 := (hR.2.2.2.2.1 _).2.2.2.1 (by omega)
      have hS := GX.st (hR.weak (ya := z0) (yy := z0) (yp := 0) (yq := 0) (fun _ => Nat.zero_le _) (fun _ => Nat.zero_le _) (Nat.zero_le _) (Nat.zero_le _)) (v := 3) (yy := z0) (yp := 6) (yq := 6) ht (by decide) (by decide) (fun y => by omega) (fun _ => h17) (fun _ _ => rfl) (hR.gi.2.2.2.2.2.2.2.2.1 _).1 (by rw [pot_of hs]; simp [pv]) (by rw [pot_of hs]; simp [pv])
      have hU := hS.unlock (gN C 26 (gN C 24 q 0) 0) (gN C 24 q 0) 12
      have hn := hR.1.1
      refine (GX.toH (c := cNU C (gN C 24 q 0)) (xa := z0) (xy := z0) (x := 3) (Or.inr rfl) ?_ (hU.weak (fun _ => Nat.le_refl _) (fun z => by simp [nY, z0]) ?_ ?_) _ (Nat.le_refl _)).gi
      · rw [cNU_N _ _ (by decide)]; exact ht
      · rw [cNU_N _ _ (by decide)]; omega
      · rw [cNU_N _ _ (by decide)]; omega
    · exact hR.gi
  rw [if_neg z2]
  by_cases z3 : gN c 21 q 0 = 3
  · -- DROP
    rw [if_pos z3]
    exact ((hR.f13 ht).unlock _ _ _).gi
  rw [if_neg z3]
  by_cases z4 : gN c 21 q 0 = 4
  · -- SEND
    rw [if_pos z4]
    obtain ⟨g1, g2, g3⟩ := m4 z4
    have hk : gN C 6 (gN C 23 q 0) (gN C 26 (gN C 24 q 0) 0) + 1 = gN C 17 (gN C 24 q 0) 0 := by
      rw [c23, c24, d26, d17, d6]
      unfold cCanCome cCanTake at hcan
      rw [z4] at hcan
      simp at hcan
      omega
    have hw4 := h.1.1.2
    rw [z4] at hR
    have hT := GX.take hR (w := gN C 23 q 0) (t := gN C 24 q 0) (by rw [c23]; omega) ht (by rw [c23, c24, d26]; exact g2) hk (by rw [c23, c24]; exact hno4 z4)
    have tN : ∀ {n : Nat}, (n ≠ 3 ∧ n ≠ 30 ∧ n ≠ 6) → gN (cSd1 C q) n = gN C n := fun hn => cTake_N _ _ _ hn
    have t31 : gN (cSd1 C q) 3 1 0 = gN C 3 1 0 := by unfold cSd1; rw [cTake_3, if_neg (by omega)]
    unfold cSend
    refine (GX.post (c := cSd1 C q) (ya := z0) (yy := z0) (xp := 0) (xq := 0) (hT.weak (fun _ => Nat.le_refl _) (fun _ => Nat.le_refl _) (by simp [nP]) (by omega)) (by decide) ?_ ?_ ?_ (fun y => by omega) (fun z => ?_) (fun z => by simp [nY, z0])).gi
    · rw [tN (n := 23) (by decide), tN (n := 0) (by decide), c23, d0]; exact m23
    · rw [tN (n := 22) (by decide), tN (n := 0) (by decide), c22, d0]; exact m22
    · rw [tN (n := 24) (by decide), t31]; exact ht
    · rw [tN (n := 24) (by decide), c24]; simp [nA, z0]
  · -- ACK
    rw [if_neg z4]
    have z5 : gN c 21 q 0 = 5 := by omega
    rw [z5] at hR
    exact (GX.f20 (ya := z0) hR ht (fun z => by rw [c24]; simp [nA, z0, eq_comm])).gi

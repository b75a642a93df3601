/-! a transaction's state changes -/
def pv (v : Nat) : Nat := if v = 0 then 12 else if v = 1 then 6 else 0
theorem gG.st {c : Lg} {xa xy yy : Nat → Nat} {xp xq yp yq : Nat} (h : gG c xa xy xp xq) {t v : Nat} (ht : t < gN c 3 1 0) (hv : v ≠ 0) (hy : ∀ z, z ≠ t → yy z = xy z) (hyt : gN c 19 t 0 + qs c (wY c t) + yy t ≤ 4) (hp : yp + pv v ≤ xp + pot c t) (hq : yq + pv v ≤ xq + pot c t) : gG (uN c 16 t 0 v) xa yy yp yq := by
  obtain ⟨h1, h2, h3, h4⟩ := h
  have nn : ∀ {n : Nat}, n ≠ 16 → gN (uN c 16 t 0 v) n = gN c n := fun hn => gN_f _ _ _ _ _ hn
  have eq : ∀ w, qs (uN c 16 t 0 v) w = qs c w := fun w => by unfold qs; rw [nn (by decide), nn (by decide)]
  have eA : ∀ z, wA (uN c 16 t 0 v) z = wA c z := fun z => by funext q; unfold wA; rw [nn (by decide), nn (by decide)]
  have eY : ∀ z, wY (uN c 16 t 0 v) z = wY c z := fun z => by funext q; unfold wY; rw [nn (by decide), nn (by decide)]
  have eP : wP (uN c 16 t 0 v) = wP c := by funext q; unfold wP; rw [nn (by decide)]
  have e16 : ∀ z, gN (uN c 16 t 0 v) 16 z 0 = if z = t then v else gN c 16 z 0 := fun z => by rw [gN_uN]; simp
  have ep : ∀ z, z ≠ t → pot (uN c 16 t 0 v) z = pot c z := fun z hz => by unfold pot; rw [e16, if_neg hz]
  have et : pot (uN c 16 t 0 v) t = pv v := by unfold pot pv; rw [e16, if_pos rfl]
  have hs := sumN_upd (f := pot c) (g := pot (uN c 16 t 0 v)) (t := t) ep ht
  rw [et] at hs
  refine ⟨fun z => ?_, fun z => ?_, ?_, ?_⟩
  · rw [eq, eA, nn (by decide), nn (by decide), nn (by decide)]; exact h1 z
  · rw [eq, eY, nn (n := 19) (by decide), e16]
    by_cases z1 : z = t
    · subst z1; rw [if_pos rfl]; exact ⟨hyt, fun y => absurd y hv⟩
    · rw [if_neg z1, hy z z1]; exact h2 z
  · rw [eq, eP, nn (by decide), nn (by decide)]; omega
  · rw [nn (by decide)]; omega
theorem gD.st {c : Lg} (h : gD c) {t v : Nat} (hv : v < 4) (h0 : v ≠ 0) (h1 : v = 1 → 0 < gN c 15 t 0) (h2 : v ≠ 2 → gN c 17 t 0 = 0) : gD (uN c 16 t 0 v) := by
  intro z
  have nn : ∀ {n : Nat}, n ≠ 16 → gN (uN c 16 t 0 v) n = gN c n := fun hn => gN_f _ _ _ _ _ hn
  have e16 : ∀ z, gN (uN c 16 t 0 v) 16 z 0 = if z = t then v else gN c 16 z 0 := fun z => by rw [gN_uN]; simp
  rw [e16, nn (n := 15) (by decide), nn (n := 17) (by decide), nn (n := 18) (by decide)]
  by_cases z1 : z = t
  · subst z1; rw [if_pos rfl]; exact ⟨hv, fun y => absurd y h0, h1, h2, (h z).2.2.2.2⟩
  · rw [if_neg z1]; exact h z
theorem gK.st {c : Lg} (h : gK c) {n t v : Nat} (hn : 3 < n) (ht : t < gN c 3 1 0) : gK (uN c n t 0 v) := by
  refine h.fr ?_ (fun _ _ => ⟨rfl, rfl, rfl⟩) (fun _ _ => ⟨rfl, rfl⟩) (fun m z _ _ hz => ?_)
  · rw [gN_f _ _ _ _ _ (by omega)]
  · rw [gN_uN, if_neg (by omega)]
theorem GX.st {c : Lg} {xa xy yy : Nat → Nat} {xp xq yp yq : Nat} (h : GX c xa xy xp xq) {t v : Nat} (ht : t < gN c 3 1 0) (hv4 : v < 4) (hv : v ≠ 0) (h1 : v = 1 → 0 < gN c 15 t 0) (h2 : v ≠ 2 → gN c 17 t 0 = 0) (hy : ∀ z, z ≠ t → yy z = xy z) (hyt : gN c 19 t 0 + qs c (wY c t) + yy t ≤ 4) (hp : yp + pv v ≤ xp + pot c t) (hq : yq + pv v ≤ xq + pot c t) : GX (uN c 16 t 0 v) xa yy yp yq := by
  obtain ⟨a, l, cc, k, d, e, ff, g⟩ := h
  have nn : ∀ {n : Nat}, n ≠ 16 → gN (uN c 16 t 0 v) n = gN c n := fun hn => gN_f _ _ _ _ _ hn
  have n3 : gN (uN c 16 t 0 v) 3 = gN c 3 := nn (by decide)
  exact ⟨a.fr (nn (by decide)) (by rw [n3]) (by rw [n3]) (nn (by decide)) (nn (by decide)), l.fr (nn (by decide)) (by rw [n3]) rfl, cc.fr (by rw [n3]) rfl (nn (by decide)), k.st (by decide) ht, d.st hv4 hv h1 h2, e.fr (nn (by decide)) (by rw [n3]) (fun w hw => by rw [n3]) (nn (by decide)) (nn (by decide)) (nn (by decide)) (nn (by decide)) (nn (by decide)), ff.fr (nn (by decide)) (by rw [n3]) (by rw [n3]) (nn (by decide)) (nn (by decide)) (nn (by decide)) (nn (by decide)) (nn (by decide)) (nn (by decide)) (nn (by decide)) (nn (by decide)) (nn (by decide)), g.st ht hv hy hyt hp hq⟩
/-! a site takes a transaction -/
theorem cTake_6 (c : Lg) (w t i j : Nat) : gN (cTake c w t) 6 i j = if i = w ∧ j = gN c 26 t 0 then gN c 6 w (gN c 26 t 0) + 1 else gN c 6 i j := by
  unfold cTake; rw [cUnlock_N, cIn_N _ _ _ (by decide)]; unfold cT1; rw [gN_uN]; simp
theorem cTake_30 (c : Lg) (w t i j : Nat) : gN (cTake c w t) 30 i j = if i = w ∧ j = gN c 3 (3 + w) 0 then t else gN c 30 i j := by
  unfold cTake cIn cT1; rw [cUnlock_N, gN_f _ _ _ _ _ (by decide), gN_uN]; simp [gN_uN]
theorem cTake_B (c : Lg) (w t : Nat) : gB (cTake c w t) = gB c := by unfold cTake; rw [cUnlock_B]; rfl
theorem cTake_J (c : Lg) (w t : Nat) : gJ (cTake c w t) = gJ c := by unfold cTake; rw [cUnlock_J]; rfl
theorem cTake_I (c : Lg) (w t v j : Nat) : gI (cTake c w t) 7 v j = if v = w ∧ j < 12 ∧ gI c 7 v j = nI t then -4 else gI c 7 v j := by
  unfold cTake; rw [cUnlock_I]; rfl
theorem gL.take {c : Lg} (h : gL c) (w t : Nat) : gL (cTake c w t) := by
  intro v k hv hk hz
  rw [cTake_N _ _ _ (by decide), cTake_3, if_neg (by omega)] at hz
  rw [cTake_I]; split
  · rfl
  · exact h v k hv hk hz
theorem sum4 {F G : Nat → Nat} {p : Nat} (hp : p < 4) (h : ∀ j, G j = if j = p then F p + 1 else F j) : G 0 + G 1 + G 2 + G 3 = F 0 + F 1 + F 2 + F 3 + 1 := by
  rw [h 0, h 1, h 2, h 3]
  rcases (show p = 0 ∨ p = 1 ∨ p = 2 ∨ p = 3 by omega) with rfl | rfl | rfl | rfl <;> simp <;> omega
theorem gE.take {c : Lg} (hA : gA c) (h : gE c) {w t : Nat} (hw : w < 4) (ht : t < gN c 3 1 0) (hne : w ≠ gN c 26 t 0) (hk : gN c 6 w (gN c 26 t 0) + 1 = gN c 17 t 0) : gE (cTake c w t) := by
  obtain ⟨⟨e1, e2⟩, e3, e4, e5, e6, e7, e8⟩ := h
  have hp := hA.2.2.2 t ht
  have hp4 := hA.1.2
  have e5t := e5 t ht
  generalize hP : gN c 26 t 0 = p at *
  have n6 : ∀ i j, gN (cTake c w t) 6 i j = if i = w ∧ j = p then gN c 6 w p + 1 else gN c 6 i j := fun i j => by rw [cTake_6, hP]
  have n0 : gN (cTake c w t) 0 = gN c 0 := cTake_N _ _ _ (by decide)
  have n9 : gN (cTake c w t) 9 = gN c 9 := cTake_N _ _ _ (by decide)
  have n17 : gN (cTake c w t) 17 = gN c 17 := cTake_N _ _ _ (by decide)
  have n26 : gN (cTake c w t) 26 = gN c 26 := cTake_N _ _ _ (by decide)
  have n31 : gN (cTake c w t) 3 1 0 = gN c 3 1 0 := by rw [cTake_3, if_neg (by omega)]
  have dg : ∀ x, gN (cTake c w t) 6 x x = gN c 6 x x := fun x => by rw [n6, if_neg (by omega)]
  have up : ∀ x y, gN c 6 x y ≤ gN (cTake c w t) 6 x y := fun x y => by rw [n6]; split <;> rename_i z <;> first | (obtain ⟨rfl, rfl⟩ := z; omega) | omega
  refine ⟨⟨fun x o ho => ?_, by rw [n0, n9, n31]; exact e2⟩, fun x hx => ?_, fun x y => ?_, fun z hz => ?_, ?_, by rw [n31, n17, n26]; exact e7, fun x i hx hi => ?_⟩
  · rw [n0] at ho; rw [n6, if_neg (by omega)]; exact e1 x o ho
  · rw [cTake_3]
    by_cases z : x = w
    · subst z
      rw [if_pos ⟨rfl, rfl⟩, e3 x hx]
      exact (sum4 (F := fun j => gN c 6 x j) (G := fun j => gN (cTake c x t) 6 x j) (p := p) (by omega) (fun j => by rw [n6]; simp)).symm
    · rw [if_neg (by omega), e3 x hx, n6, n6, n6, n6, if_neg (fun h => z h.1), if_neg (fun h => z h.1), if_neg (fun h => z h.1), if_neg (fun h => z h.1)]
  · rw [dg, n6]; split
    · rename_i z; obtain ⟨rfl, rfl⟩ := z; omega
    · exact e4 x y
  · rw [n31] at hz; rw [n17, n26, dg]; exact e5 z hz
  · rw [dg, dg, dg, dg, n31, n17]; exact e6
  · rw [cTake_3] at hi
    rw [n31, n17, n26, cTake_30]
    by_cases z : x = w ∧ i = gN c 3 (3 + w) 0
    · obtain ⟨rfl, rfl⟩ := z
      rw [if_pos ⟨rfl, rfl⟩, hP, n6, if_pos ⟨rfl, rfl⟩]; omega
    · rw [if_neg z]
      have hi2 : i < gN c 3 (3 + x) 0 := by
        by_cases y : x = w
        · subst y; rw [if_pos ⟨rfl, rfl⟩] at hi; omega
        · rw [if_neg (by omega)] at hi; exact hi
      have := e8 x i hx hi2
      exact ⟨this.1, this.2.1, Nat.le_trans this.2.2 (up _ _)⟩
theorem gF.take {c : Lg} (hE : gE c) (h : gF c) {w t : Nat} (ht : t < gN c 3 1 0) (hk : gN c 6 w (gN c 26 t 0) + 1 = gN c 17 t 0) (hno : ∀ i, i < gN c 3 2 0 → gN c 21 (gN c 31 0 i) 0 = 4 → gN c 23 (gN c 31 0 i) 0 = w → gN c 24 (gN c 31 0 i) 0 = t → False) : gF (cTake c w t) := by
  have nn : ∀ {n : Nat}, (n ≠ 3 ∧ n ≠ 30 ∧ n ≠ 6) → gN (cTake c w t) n = gN c n := fun hn => cTake_N _ _ _ hn
  have n31 : gN (cTake c w t) 3 1 0 = gN c 3 1 0 := by rw [cTake_3, if_neg (by omega)]
  have n32 : gN (cTake c w t) 3 2 0 = gN c 3 2 0 := by rw [cTake_3, if_neg (by omega)]
  refine ⟨fun i hi => ?_, ?_⟩
  · rw [n32] at hi
    have h1 := h.1 i hi
    unfold gM1 at *
    rw [nn (n := 0) (by decide), nn (n := 17) (by decide), nn (n := 21) (by decide), nn (n := 22) (by decide), nn (n := 23) (by decide), nn (n := 24) (by decide), nn (n := 26) (by decide), nn (n := 31) (by decide), nn (n := 32) (by decide), n31]
    refine ⟨h1.1, h1.2.1, h1.2.2.1, h1.2.2.2.1, h1.2.2.2.2.1, fun y => ?_⟩
    obtain ⟨g1, g2, g3⟩ := h1.2.2.2.2.2 y
    refine ⟨g1, g2, ?_⟩
    rw [cTake_6]; split
    · rename_i z
      obtain ⟨z1, z2⟩ := z
      rw [z1, z2] at g3
      rw [hk]
      have hle : gN c 17 t 0 ≤ gN c 17 (gN c 24 (gN c 31 0 i) 0) 0 := by omega
      refine Nat.lt_of_le_of_ne hle (fun y2 => hno i hi y z1 ?_)
      exact (hE.2.2.2.2.2.1 t _ ht h1.2.2.2.2.1 z2.symm y2 (by omega)).symm
    · exact g3
  · rw [n32, nn (n := 21) (by decide), nn (n := 23) (by decide), nn (n := 24) (by decide), nn (n := 31) (by decide)]; exact h.2
theorem GX.take {c : Lg} {xa xy : Nat → Nat} {xp xq : Nat} (h : GX c xa xy xp xq) {w t : Nat} (hw : w < 4) (ht : t < gN c 3 1 0) (hne : w ≠ gN c 26 t 0) (hk : gN c 6 w (gN c 26 t 0) + 1 = gN c 17 t 0) (hno : ∀ i, i < gN c 3 2 0 → gN c 21 (gN c 31 0 i) 0 = 4 → gN c 23 (gN c 31 0 i) 0 = w → gN c 24 (gN c 31 0 i) 0 = t → False) : GX (cTake c w t) xa xy xp xq := by
  obtain ⟨a, l, cc, k, d, e, ff, g⟩ := h
  have nn : ∀ {n : Nat}, (n ≠ 3 ∧ n ≠ 30 ∧ n ≠ 6) → gN (cTake c w t) n = gN c n := fun hn => cTake_N _ _ _ hn
  have n3 : ∀ i, i < 3 → gN (cTake c w t) 3 i 0 = gN c 3 i 0 := fun i hi => by rw [cTake_3, if_neg (by omega)]
  exact ⟨a.fr (nn (by decide)) (n3 0 (by decide)) (n3 1 (by decide)) (nn (by decide)) (nn (by decide)), l.take w t, cc.fr (n3 0 (by decide)) (by rw [cTake_B]) (nn (by decide)), k.fr (n3 1 (by decide)) (fun _ _ => by rw [cTake_B]; exact ⟨rfl, rfl, rfl⟩) (fun _ _ => by rw [cTake_J]; exact ⟨rfl, rfl⟩) (fun n t h1 h2 _ => by rw [nn (by omega)]), d.fr (nn (by decide)) (nn (by decide)) (nn (by decide)) (nn (by decide)), e.take a hw ht hne hk, ff.take e ht hk hno, g.fr (nn (by decide)) (n3 1 (by decide)) (n3 2 (by decide)) (nn (by decide)) (nn (by decide)) (nn (by decide)) (nn (by decide)) (nn (by decide)) (nn (by decide)) (nn (by decide)) (nn (by decide))⟩
/-! a transaction commits at its own site -/
theorem cM2_16 (c : Lg) (t i j : Nat) : gN (cM2 c t) 16 i j = if i = t ∧ j = 0 then 2 else gN c 16 i j := by unfold cM2 cM1; rw [gN_f _ _ _ _ _ (by decide), gN_uN]; simp
theorem cM2_17 (c : Lg) (t i j : Nat) : gN (cM2 c t) 17 i j = if i = t ∧ j = 0 then gN c 6 (gN c 26 t 0) (gN c 26 t 0) + 1 else gN c 17 i j := by unfold cM2 cM1; rw [gN_uN]; simp [gN_uN]
theorem cM3_N (c : Lg) (t : Nat) {n : Nat} (h : n ≠ 3 ∧ n ≠ 30 ∧ n ≠ 6 ∧ n ≠ 16 ∧ n ≠ 17) : gN (cM3 c t) n = gN c n := by unfold cM3; rw [cTake_N _ _ _ ⟨h.1, h.2.1, h.2.2.1⟩, cM2_N _ _ h.2.2.2]
theorem cM3_16 (c : Lg) (t i j : Nat) : gN (cM3 c t) 16 i j = if i = t ∧ j = 0 then 2 else gN c 16 i j := by unfold cM3; rw [cTake_N _ _ _ (by decide), cM2_16]
theorem cM3_17 (c : Lg) (t i j : Nat) : gN (cM3 c t) 17 i j = if i = t ∧ j = 0 then gN c 6 (gN c 26 t 0) (gN c 26 t 0) + 1 else gN c 17 i j := by unfold cM3; rw [cTake_N _ _ _ (by decide), cM2_17]
theorem cM3_6 (c : Lg) (t i j : Nat) : gN (cM3 c t) 6 i j = if i = gN c 26 t 0 ∧ j = gN c 26 t 0 then gN c 6 (gN c 26 t 0) (gN c 26 t 0) + 1 else gN c 6 i j := by unfold cM3; rw [cTake_6, cM2_N _ _ (n := 26) (by decide), cM2_N _ _ (n := 6) (by decide)]
theorem cM3_3 (c : Lg) (t i j : Nat) : gN (cM3 c t) 3 i j = if i = 3 + gN c 26 t 0 ∧ j = 0 then gN c 3 (3 + gN c 26 t 0) 0 + 1 else gN c 3 i j := by unfold cM3; rw [cTake_3, cM2_N _ _ (n := 3) (by decide)]
theorem cM3_30 (c : Lg) (t i j : Nat) : gN (cM3 c t) 30 i j = if i = gN c 26 t 0 ∧ j = gN c 3 (3 + gN c 26 t 0) 0 then t else gN c 30 i j := by unfold cM3; rw [cTake_30, cM2_N _ _ (n := 3) (by decide), cM2_N _ _ (n := 30) (by decide)]
theorem cM3_B (c : Lg) (t : Nat) : gB (cM3 c t) = gB c := by unfold cM3; rw [cTake_B]; rfl
theorem cM3_J (c : Lg) (t : Nat) : gJ (cM3 c t) = gJ c := by unfold cM3; rw [cTake_J]; rfl
theorem cM3_I (c : Lg) (t v j : Nat) : gI (cM3 c t) 7 v j = if v = gN c 26 t 0 ∧ j < 12 ∧ gI c 7 v j = nI t then -4 else gI c 7 v j := by unfold cM3; rw [cTake_I]; rfl
theorem gE.com {c : Lg} (hA : gA c) (h : gE c) {t : Nat} (ht : t < gN c 3 1 0) (hk : gN c 17 t 0 = 0) : gE (cM3 c t) := by
  obtain ⟨⟨e1, e2⟩, e3, e4, e5, e6, e7, e8⟩ := h
  have hp := hA.2.2.2 t ht
  have hp4 := hA.1.2
  have n6 := cM3_6 c t; have n17 := cM3_17 c t; have n3 := cM3_3 c t; have n30 := cM3_30 c t
  have n0 : gN (cM3 c t) 0 = gN c 0 := cM3_N _ _ (by decide)
  have n9 : gN (cM3 c t) 9 = gN c 9 := cM3_N _ _ (by decide)
  have n26 : gN (cM3 c t) 26 = gN c 26 := cM3_N _ _ (by decide)
  have n31 : gN (cM3 c t) 3 1 0 = gN c 3 1 0 := by rw [n3, if_neg (by omega)]
  generalize hP : gN c 26 t 0 = p at *
  generalize cM3 c t = c' at *
  have n17' : ∀ z, gN c' 17 z 0 = if z = t then gN c 6 p p + 1 else gN c 17 z 0 := fun z => by rw [n17]; simp
  have up : ∀ x y, gN c 6 x y ≤ gN c' 6 x y := fun x y => by rw [n6]; split <;> rename_i z <;> first | (obtain ⟨rfl, rfl⟩ := z; omega) | omega
  refine ⟨⟨fun x o ho => ?_, by rw [n0, n9, n31]; exact e2⟩, fun x hx => ?_, fun x y => ?_, fun z hz => ?_, ?_, fun z z' hz hz' => ?_, fun x i hx hi => ?_⟩
  · rw [n0] at ho; rw [n6, if_neg (by omega)]; exact e1 x o ho
  · rw [n3]
    by_cases z : x = p
    · subst z
      rw [if_pos ⟨rfl, rfl⟩, e3 x hx]
      exact (sum4 (F := fun j => gN c 6 x j) (G := fun j => gN c' 6 x j) (p := x) (by omega) (fun j => by rw [n6]; simp)).symm
    · rw [if_neg (by omega), e3 x hx, n6, n6, n6, n6, if_neg (fun h => z h.1), if_neg (fun h => z h.1), if_neg (fun h => z h.1), if_neg (fun h => z h.1)]
  · rw [n6, n6]
    by_cases z : x = p ∧ y = p
    · obtain ⟨rfl, rfl⟩ := z; exact Nat.le_refl _
    · rw [if_neg z]
      by_cases z2 : y = p
      · subst z2; rw [if_pos ⟨rfl, rfl⟩]; have := e4 x y; omega
      · rw [if_neg (fun h => z2 h.1)]; exact e4 x y
  · rw [n31] at hz; rw [n17', n26]
    by_cases z1 : z = t
    · subst z1; rw [if_pos rfl, hP, n6, if_pos ⟨rfl, rfl⟩]; exact Nat.le_refl _
    · rw [if_neg z1]; exact Nat.le_trans (e5 z hz) (up _ _)
  · rw [n31, cntN_sum] at *
    have hs := sumN_upd (f := fun i => if decide (0 < gN c 17 i 0) = true then 1 else 0) (g := fun i => if decide (0 < gN c' 17 i 0) = true then 1 else 0) (t := t) (fun i hi => by simp only [n17' i, if_neg hi]) ht
    have s4 := sum4 (F := fun j => gN c 6 j j) (G := fun j => gN c' 6 j j) (p := p) (by omega) (fun j => by rw [n6]; by_cases z : j = p; (subst z; simp); (rw [if_neg z, if_neg (fun h => z h.1)]))
    simp only [n17' t, if_pos rfl, hk] at hs
    simp at hs s4 e6 ⊢
    omega
  · rw [n31] at hz hz'
    rw [n17', n17', n26]
    intro a1 a2 a3
    by_cases z1 : z = t
    · by_cases z2 : z' = t
      · omega
      · rw [if_pos z1, if_neg z2] at a2
        have := e5 z' hz'
        rw [z1, hP] at a1; rw [← a1] at this; omega
    · by_cases z2 : z' = t
      · rw [if_neg z1, if_pos z2] at a2
        have := e5 z hz
        rw [z2, hP] at a1; rw [a1] at this; omega
      · rw [if_neg z1, if_neg z2] at a2; rw [if_neg z1] at a3
        exact e7 z z' hz hz' a1 a2 a3
  · rw [n3] at hi
    rw [n31, n26, n30]
    by_cases z : x = p ∧ i = gN c 3 (3 + p) 0
    · obtain ⟨rfl, rfl⟩ := z
      rw [if_pos ⟨rfl, rfl⟩, hP, n17', if_pos rfl, n6, if_pos ⟨rfl, rfl⟩]; omega
    · rw [if_neg z]
      have hi2 : i < gN c 3 (3 + x) 0 := by
        by_cases y : x = p
        · subst y; rw [if_pos ⟨rfl, rfl⟩] at hi; omega
        · rw [if_neg (by omega)] at hi; exact hi
      have := e8 x i hx hi2
      have hnt : gN c 30 x i ≠ t := fun y => by rw [y] at this; omega
      rw [n17', if_neg hnt]
      exact ⟨this.1, this.2.1, Nat.le_trans this.2.2 (up _ _)⟩
theorem gF.com {c : Lg} (h : gF c) {t : Nat} (hk : gN c 17 t 0 = 0) : gF (cM3 c t) := by
  have nn : ∀ {n : Nat}, (n ≠ 3 ∧ n ≠ 30 ∧ n ≠ 6 ∧ n ≠ 16 ∧ n ≠ 17) → gN (cM3 c t) n = gN c n := fun hn => cM3_N _ _ hn
  have n31 : gN (cM3 c t) 3 1 0 = gN c 3 1 0 := by rw [cM3_3, if_neg (by omega)]
  have n32 : gN (cM3 c t) 3 2 0 = gN c 3 2 0 := by rw [cM3_3, if_neg (by omega)]
  refine ⟨fun i hi => ?_, ?_⟩
  · rw [n32] at hi
    have h1 := h.1 i hi
    unfold gM1 at *
    rw [nn (n := 0) (by decide), nn (n := 21) (by decide), nn (n := 22) (by decide), nn (n := 23) (by decide), nn (n := 24) (by decide), nn (n := 26) (by decide), nn (n := 31) (by decide), nn (n := 32) (by decide), n31]
    refine ⟨h1.1, h1.2.1, h1.2.2.1, h1.2.2.2.1, h1.2.2.2.2.1, fun y => ?_⟩
    obtain ⟨g1, g2, g3⟩ := h1.2.2.2.2.2 y
    refine ⟨g1, g2, ?_⟩
    have hnt : gN c 24 (gN c 31 0 i) 0 ≠ t := fun z => by rw [z] at g3; omega
    rw [cM3_6, cM3_17, if_neg (fun z => g2 (z.1.trans z.2.symm)), if_neg (fun z => hnt z.1)]
    exact g3
  · rw [n32, nn (n := 21) (by decide), nn (n := 23) (by decide), nn (n := 24) (by decide), nn (n := 31) (by decide)]; exact h.2
theorem gG.com {c : Lg} {xa xy yy : Nat → Nat} {xp xq : Nat} (hA : gA c) (h : gG c xa xy xp xq) {t : Nat} (ht : t < gN c 3 1 0) (hk : gN c 17 t 0 = 0) (h01 : 6 ≤ pot c t) : gG (cM3 c t) (fun z => if z = t then gN c 0 0 0 - 1 else xa z) xy (xp + 6) (xq + 6) := by
  have h' := h.st (v := 2) (yy := xy) (yp := xp + 6) (yq := xq + 6) ht (by decide) (fun _ _ => rfl) (h.2.1 t).1 (by simp [pv]; omega) (by simp [pv]; omega)
  obtain ⟨h1, h2, h3, h4⟩ := h'
  have nn : ∀ {n : Nat}, (n ≠ 3 ∧ n ≠ 30 ∧ n ≠ 6 ∧ n ≠ 17) → gN (cM3 c t) n = gN (uN c 16 t 0 2) n := by
    intro n hn
    by_cases z : n = 16
    · subst z; funext i j; rw [cM3_16, gN_uN]; simp
    · rw [cM3_N _ _ ⟨hn.1, hn.2.1, hn.2.2.1, z, hn.2.2.2⟩, gN_f _ _ _ _ _ z]
  have n31 : gN (cM3 c t) 3 1 0 = gN (uN c 16 t 0 2) 3 1 0 := by rw [cM3_3, if_neg (by omega), gN_f _ _ _ _ _ (by decide)]
  have n32 : gN (cM3 c t) 3 2 0 = gN (uN c 16 t 0 2) 3 2 0 := by rw [cM3_3, if_neg (by omega), gN_f _ _ _ _ _ (by decide)]
  have eq : ∀ w, qs (cM3 c t) w = qs (uN c 16 t 0 2) w := fun w => by unfold qs; rw [n32, nn (by decide)]
  have eA : ∀ z, wA (cM3 c t) z = wA (uN c 16 t 0 2) z := fun z => by funext q; unfold wA; rw [nn (by decide), nn (by decide)]
  have eY : ∀ z, wY (cM3 c t) z = wY (uN c 16 t 0 2) z := fun z => by funext q; unfold wY; rw [nn (by decide), nn (by decide)]
  have eP : wP (cM3 c t) = wP (uN c 16 t 0 2) := by funext q; unfold wP; rw [nn (by decide)]
  have ep : pot (cM3 c t) = pot (uN c 16 t 0 2) := by funext q; unfold pot; rw [nn (by decide)]
  refine ⟨fun z => ?_, fun z => ?_, ?_, ?_⟩
  · rw [eq, eA, nn (n := 0) (by decide), nn (n := 20) (by decide), cM3_17]
    have := h1 z
    rw [gN_f _ _ _ _ _ (by decide : (17 : Nat) ≠ 16)] at this
    dsimp only
    by_cases y : z = t
    · subst y
      have h0 := this.2 hk
      rw [if_pos rfl, if_pos ⟨rfl, rfl⟩, gN_f _ _ _ _ _ (by decide : (0 : Nat) ≠ 16)]
      have := hA.1.1
      rw [gN_f _ _ _ _ _ (by decide : (20 : Nat) ≠ 16)] at h0
      rw [gN_f _ _ _ _ _ (by decide : (20 : Nat) ≠ 16)]
      exact ⟨by omega, fun y => by omega⟩
    · rw [if_neg y, if_neg (fun q => y q.1)]; exact this
  · rw [eq, eY, nn (n := 16) (by decide), nn (n := 19) (by decide)]; exact h2 z
  · rw [eq, eP, ep, n31, nn (n := 32) (by decide)]; exact h3
  · rw [ep, n31, n32]; exact h4
theorem GX.com {c : Lg} {xa xy : Nat → Nat} {xp xq : Nat} (h : GX c xa xy xp xq) {t : Nat} (ht : t < gN c 3 1 0) (hk : gN c 17 t 0 = 0) (h01 : 6 ≤ pot c t) : GX (cM3 c t) (fun z => if z = t then gN c 0 0 0 - 1 else xa z) xy (xp + 6) (xq + 6) := by
  obtain ⟨a, l, cc, k, d, e, ff, g⟩ := h
  have nn : ∀ {n : Nat}, (n ≠ 3 ∧ n ≠ 30 ∧ n ≠ 6 ∧ n ≠ 16 ∧ n ≠ 17) → gN (cM3 c t) n = gN c n := fun hn => cM3_N _ _ hn
  have n3 : ∀ i, i < 3 → gN (cM3 c t) 3 i 0 = gN c 3 i 0 := fun i hi => by rw [cM3_3, if_neg (by omega)]
  refine ⟨a.fr (nn (by decide)) (n3 0 (by decide)) (n3 1 (by decide)) (nn (by decide)) (nn (by decide)), ?_, cc.fr (n3 0 (by decide)) (by rw [cM3_B]) (nn (by decide)), k.fr (n3 1 (by decide)) (fun _ _ => by rw [cM3_B]; exact ⟨rfl, rfl, rfl⟩) (fun _ _ => by rw [cM3_J]; exact ⟨rfl, rfl⟩) (fun n z h1 h2 hz => ?_), ?_, e.com a ht hk, ff.com hk, g.com (yy := xy) a ht hk h01⟩
  · intro v j hv hj hz
    rw [nn (n := 0) (by decide), n3 0 (by decide)] at hz
    rw [cM3_I]; split
    · rfl
    · exact l v j hv hj hz
  · by_cases z16 : n = 16
    · subst z16; rw [cM3_16, if_neg (by omega)]
    · by_cases z17 : n = 17
      · subst z17; rw [cM3_17, if_neg (by omega)]
      · rw [nn (by omega)]
  · intro z
    rw [cM3_16, cM3_17, nn (n := 15) (by decide), nn (n := 18) (by decide)]
    by_cases y : z = t
    · subst y; rw [if_pos ⟨rfl, rfl⟩]; exact ⟨by decide, fun q => by omega, fun q => by omega, fun q => absurd rfl q, (d z).2.2.2.2⟩
    · rw [if_neg (fun q => y q.1), if_neg (fun q => y q.1)]; exact d z

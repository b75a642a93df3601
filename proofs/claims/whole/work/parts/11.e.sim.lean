/-! the class's calls keep the invariant -/
theorem cElse_p {c : Lg} (h : gC c) {t : Nat} (he : cElse c t = true) : 0 < gN c 15 t 0 := by
  unfold cElse at he
  obtain ⟨w, hw, h1⟩ := anyN_iff.mp he
  unfold cHeQ at h1
  simp at h1
  obtain ⟨k, hk, h2⟩ := anyN_iff.mp h1.2
  unfold cPlQ at h2
  simp at h2
  rw [h.2 t, cntN_sum]
  have : ∀ {n : Nat}, k < n → 0 < sumN (fun i => if gB c 10 t i = true then 1 else 0) n := by
    intro n hn
    induction n with
    | zero => omega
    | succ n ih =>
      rw [sumN_s]
      by_cases z : k = n
      · subst z; rw [if_pos h2.1]; omega
      · have := ih (by omega); omega
  exact this hk
theorem GX.f18 {c : Lg} {xa xy : Nat → Nat} {xp xq : Nat} (h : GX c xa xy xp xq) {t v : Nat} (ht : t < gN c 3 1 0) (hs : gN c 16 t 0 ≠ 0) (hv : v ≤ 4) : GX (uN c 18 t 0 v) xa xy xp xq := by
  obtain ⟨a, l, cc, k, d, e, ff, g⟩ := h
  have nn : ∀ {n : Nat}, n ≠ 18 → gN (uN c 18 t 0 v) n = gN c n := fun hn => gN_f _ _ _ _ _ hn
  have n3 : gN (uN c 18 t 0 v) 3 = gN c 3 := nn (by decide)
  refine ⟨a.fr (nn (by decide)) (by rw [n3]) (by rw [n3]) (nn (by decide)) (nn (by decide)), l.fr (nn (by decide)) (by rw [n3]) rfl, cc.fr (by rw [n3]) rfl (nn (by decide)), k.st (by decide) ht, ?_, e.fr (nn (by decide)) (by rw [n3]) (fun w hw => by rw [n3]) (nn (by decide)) (nn (by decide)) (nn (by decide)) (nn (by decide)) (nn (by decide)), ff.fr (nn (by decide)) (by rw [n3]) (by rw [n3]) (nn (by decide)) (nn (by decide)) (nn (by decide)) (nn (by decide)) (nn (by decide)) (nn (by decide)) (nn (by decide)) (nn (by decide)) (nn (by decide)), g.fr (nn (by decide)) (by rw [n3]) (by rw [n3]) (nn (by decide)) (nn (by decide)) (nn (by decide)) (nn (by decide)) (nn (by decide)) (nn (by decide)) (nn (by decide)) (nn (by decide))⟩
  intro z
  rw [nn (n := 15) (by decide), nn (n := 16) (by decide), nn (n := 17) (by decide), gN_uN]
  by_cases y : z = t
  · subst y; rw [if_pos ⟨rfl, rfl, rfl⟩]; exact ⟨(d z).1, fun q => absurd q hs, (d z).2.2.1, (d z).2.2.2.1, hv⟩
  · rw [if_neg (fun q => y q.2.1)]; exact d z
theorem GI.commit {c : Lg} (h : GI c) {t : Nat} (ht : t < gN c 3 1 0) (hs : gN c 16 t 0 = 0) : GI (cCm c t) := by
  have h17 : gN c 17 t 0 = 0 := (h.2.2.2.2.1 t).2.2.2.1 (by omega)
  have hY := (h.2.2.2.2.2.2.2.2.1 t).2 hs
  have hn := h.1.1
  unfold cCm; split
  · split
    · rename_i he
      have hL := h.lock t (gN c 26 t 0) (n := gN c 3 0 0) rfl
      have n16 : gN (cLock c t (gN c 26 t 0) (gN c 3 0 0)) 16 t 0 = 0 := by rw [cLock_N]; exact hs
      have hS := GX.st hL (v := 1) (yy := fun z => z0 z + nY 0 t z * (gN c 0 0 0 - 1)) (yp := 6) (yq := 6) (by rw [cLock_N]; exact ht) (by decide) (by decide) (fun _ => by rw [cLock_N]; exact cElse_p h.2.2.1 he) (fun _ => by rw [cLock_N]; exact h17) (fun z hz => by show z0 z + nY 0 t z * _ = z0 z; unfold nY; rw [if_neg (fun q => hz q.2.symm)]; simp) (by
        have e1 : qs (cLock c t (gN c 26 t 0) (gN c 3 0 0)) (wY (cLock c t (gN c 26 t 0) (gN c 3 0 0)) t) = qs c (wY c t) := by unfold qs wY; rw [cLock_N]
        rw [e1, cLock_N]; simp [nY, z0] at hY ⊢; omega) (by rw [pot_of n16]; simp [pv]) (by rw [pot_of n16]; simp [pv])
      have hS : GX (cCmL c t) z0 (fun z => z0 z + nY 0 t z * (gN c 0 0 0 - 1)) 6 6 := hS
      have e0 : gN (cCmL c t) 0 = gN c 0 := cCmL_N _ _ (by decide)
      have hH := GX.toH (c := cCmL c t) (xa := z0) (xy := z0) (t := t) (x := 0) (Or.inl rfl) (by rw [cCmL_N _ _ (by decide)]; exact ht) (by rw [e0]; exact hS.weak (fun _ => Nat.le_refl _) (fun _ => Nat.le_refl _) (by omega) (by omega)) (gN (cCmL c t) 0 0 0) (Nat.le_refl _)
      have hle := cToHn_le (cCmL c t) t 0 (gN (cCmL c t) 0 0 0)
      refine GX.f18 (c := cCmH c t) hH.gi ?_ ?_ (by rw [e0] at hle ⊢; omega)
      · unfold cCmH; rw [cToH_3 _ _ _ (by decide), cCmL_N _ _ (by decide)]; exact ht
      · unfold cCmH; rw [cToH_N _ _ _ (by decide)]; unfold cCmL; rw [gN_uN]; simp
    · exact h.mk ht (Or.inl hs)
  · exact GX.st h (v := 3) (yy := z0) (yp := 0) (yq := 0) ht (by decide) (by decide) (fun z => by omega) (fun _ => h17) (fun _ _ => rfl) (h.2.2.2.2.2.2.2.2.1 t).1 (by simp [pv]) (by simp [pv])
theorem GI.abort {c : Lg} (h : GI c) {t : Nat} (ht : t < gN c 3 1 0) (hs : gN c 16 t 0 = 0) : GI (uN c 16 t 0 3) :=
  GX.st h (v := 3) (yy := z0) (yp := 0) (yq := 0) ht (by decide) (by decide) (fun z => by omega) (fun _ => (h.2.2.2.2.1 t).2.2.2.1 (by omega)) (fun _ _ => rfl) (h.2.2.2.2.2.2.2.2.1 t).1 (by simp [pv]) (by simp [pv])
theorem GI.begin {c : Lg} (h : GI c) {w : Nat} (hw : w < gN c 0 0 0) (hT : gN c 3 1 0 < 150) : GI (cBeg c w) := by
  obtain ⟨a, l, cc, k, d, e, ff, g⟩ := h
  have kT := k (gN c 3 1 0) (Nat.le_refl _)
  obtain ⟨-, -, -, -, -, -, k16, k17, -⟩ := kT
  have nn : ∀ {n : Nat}, (n ≠ 3 ∧ n ≠ 9 ∧ n ≠ 26) → gN (cBeg c w) n = gN c n := fun hn => by unfold cBeg; rw [gN_f _ _ _ _ _ hn.1, cTx_N _ _ _ hn.2]
  have n3 : ∀ i, gN (cBeg c w) 3 i 0 = if i = 1 then gN c 3 1 0 + 1 else gN c 3 i 0 := by
    intro i; unfold cBeg; rw [gN_uN, cTx_N _ _ _ (by decide)]; simp
  have n9 : ∀ i j, gN (cBeg c w) 9 i j = if i = gN c 3 1 0 then gN c 6 w j else gN c 9 i j := by
    intro i j; unfold cBeg; rw [gN_f _ _ _ _ _ (by decide), cTx_9]
  have n26 : ∀ i, gN (cBeg c w) 26 i 0 = if i = gN c 3 1 0 then w else gN c 26 i 0 := by
    intro i; unfold cBeg; rw [gN_f _ _ _ _ _ (by decide), cTx_26]; simp
  have n30 := n3 0; have n31 := n3 1; have n32 := n3 2
  rw [if_neg (by decide)] at n30 n32
  rw [if_pos rfl] at n31
  have n3w : ∀ x, gN (cBeg c w) 3 (3 + x) 0 = gN c 3 (3 + x) 0 := fun x => by rw [n3, if_neg (by omega)]
  have o26 : ∀ z, z < gN c 3 1 0 → gN (cBeg c w) 26 z 0 = gN c 26 z 0 := fun z hz => by rw [n26, if_neg (by omega)]
  have m0 := nn (n := 0) (by decide); have m6 := nn (n := 6) (by decide); have m17 := nn (n := 17) (by decide); have m16 := nn (n := 16) (by decide)
  have hB : gB (cBeg c w) = gB c := rfl
  have hJ : gJ (cBeg c w) = gJ c := rfl
  have hI : gI (cBeg c w) = gI c := rfl
  have m15 := nn (n := 15) (by decide); have m18 := nn (n := 18) (by decide); have m19 := nn (n := 19) (by decide); have m20 := nn (n := 20) (by decide); have m21 := nn (n := 21) (by decide); have m22 := nn (n := 22) (by decide); have m23 := nn (n := 23) (by decide); have m24 := nn (n := 24) (by decide); have m25 := nn (n := 25) (by decide); have m30 := nn (n := 30) (by decide); have m31 := nn (n := 31) (by decide); have m32 := nn (n := 32) (by decide)
  generalize cBeg c w = C at *
  refine ⟨⟨by rw [m0]; exact a.1, by rw [n30, n31]; exact ⟨a.2.1.1, by omega⟩, by rw [n30, m25, m0]; exact a.2.2.1, ?_⟩, l.fr m0 n30 hI, cc.fr n30 (by rw [hB]) m15, ?_, d.fr m15 m16 m17 m18, ?_, ?_, ?_⟩
  · intro t ht; rw [n31] at ht; rw [n26, m0]; split
    · exact hw
    · exact a.2.2.2 t (by omega)
  · intro t ht; rw [n31] at ht
    have := k t (by omega)
    unfold Df at *; rw [hB, hJ, m15, m16, m17, m18, m19, m20]; exact this
  · obtain ⟨⟨e1, e2⟩, e3, e4, e5, e6, e7, e8⟩ := e
    refine ⟨⟨by rw [m0, m6]; exact e1, fun t o ho => ?_⟩, fun x hx => by rw [n3w, m6]; exact e3 x hx, by rw [m6]; exact e4, fun t ht => ?_, ?_, fun t t' ht ht' => ?_, fun x i hx hi => ?_⟩
    · rw [m0, n31] at ho; rw [n9]; split
      · exact e1 w o (by omega)
      · exact e2 t o (by omega)
    · rw [n31] at ht; rw [m17, m6]
      by_cases z : t = gN c 3 1 0
      · rw [z, k17]; omega
      · rw [o26 t (by omega)]; exact e5 t (by omega)
    · rw [m6, m17, n31, cntN_s, k17]; simpa using e6
    · rw [n31] at ht ht'; rw [m17]
      intro a1 a2 a3
      have z1 : t ≠ gN c 3 1 0 := fun z => by rw [z, k17] at a3; omega
      have z2 : t' ≠ gN c 3 1 0 := fun z => by rw [z, k17] at a2; omega
      rw [o26 t (by omega), o26 t' (by omega)] at a1
      exact e7 t t' (by omega) (by omega) a1 a2 a3
    · rw [n3w] at hi
      have := e8 x i hx hi
      rw [m30, n31, m17, m6, o26 _ this.1]
      exact ⟨by omega, this.2⟩
  · refine ⟨fun i hi => ?_, by rw [n32, m21, m23, m24, m31]; exact ff.2⟩
    rw [n32] at hi
    have := ff.1 i hi
    unfold gM1 at *
    rw [m31, m32, m21, m22, m23, m24, m0, m6, m17, n31, o26 _ this.2.2.2.2.1]
    exact ⟨this.1, this.2.1, this.2.2.1, this.2.2.2.1, by omega, this.2.2.2.2.2⟩
  · obtain ⟨g1, g2, g3, g4⟩ := g
    have eq : ∀ f, qs C f = qs c f := fun f => by unfold qs; rw [n32, m31]
    have eA : ∀ z, wA C z = wA c z := fun z => by funext q; unfold wA; rw [m21, m24]
    have eY : ∀ z, wY C z = wY c z := fun z => by funext q; unfold wY; rw [m21, m24]
    have eP : wP C = wP c := by funext q; unfold wP; rw [m21]
    have ep : pot C = pot c := by funext q; unfold pot; rw [m16]
    refine ⟨fun z => by rw [eq, eA, m0, m17, m20]; exact g1 z, fun z => by rw [eq, eY, m16, m19]; exact g2 z, ?_, ?_⟩
    · rw [eq, eP, ep, n31, m32, sumN_s, pot_of k16]; simp [pv]; omega
    · rw [ep, n31, n32, sumN_s, pot_of k16]; simp [pv]; omega
theorem GI.thing {c : Lg} (h : GI c) {w : Nat} {b : Bool} (hw : w < gN c 0 0 0) (hK : gN c 3 0 0 < 12) : GI (cTh c w b) := by
  obtain ⟨a, l, cc, k, d, e, ff, g⟩ := h
  have nn : ∀ {n : Nat}, (n ≠ 3 ∧ n ≠ 25) → gN (cTh c w b) n = gN c n := fun hn => by unfold cTh; rw [gN_f _ _ _ _ _ hn.1, gTh_N _ _ _ _ hn.2]
  have n3 : ∀ i, gN (cTh c w b) 3 i 0 = if i = 0 then gN c 3 0 0 + 1 else gN c 3 i 0 := by
    intro i; unfold cTh; rw [gN_uN, gTh_N _ _ _ _ (by decide)]; simp
  have n25 : ∀ i, gN (cTh c w b) 25 i 0 = if i = gN c 3 0 0 then w else gN c 25 i 0 := by
    intro i; unfold cTh; rw [gN_f _ _ _ _ _ (by decide), gTh_25]
  have n30 := n3 0; have n31 := n3 1; have n32 := n3 2
  rw [if_neg (by decide)] at n31 n32
  rw [if_pos rfl] at n30
  have hB : ∀ {f : Nat}, f ≠ 4 → gB (cTh c w b) f = gB c f := fun hf => by
    funext i j
    show gB (uB (uN c 25 (gN c 3 0 0) 0 w) 4 (gN c 3 0 0) 0 b) _ i j = _
    rw [gB_uB, if_neg (fun z => hf z.1)]; rfl
  refine ⟨⟨by rw [nn (by decide)]; exact a.1, by rw [n30, n31]; exact ⟨by omega, a.2.1.2⟩, ?_, by rw [n31, nn (n := 26) (by decide), nn (n := 0) (by decide)]; exact a.2.2.2⟩, ?_, ⟨?_, ?_⟩, ?_, d.fr (nn (by decide)) (nn (by decide)) (nn (by decide)) (nn (by decide)), e.fr (nn (by decide)) n31 (fun w hw => by rw [n3, if_neg (by omega)]) (nn (by decide)) (nn (by decide)) (nn (by decide)) (nn (by decide)) (nn (by decide)), ff.fr (nn (by decide)) n31 n32 (nn (by decide)) (nn (by decide)) (nn (by decide)) (nn (by decide)) (nn (by decide)) (nn (by decide)) (nn (by decide)) (nn (by decide)) (nn (by decide)), g.fr (nn (by decide)) n31 n32 (nn (by decide)) (nn (by decide)) (nn (by decide)) (nn (by decide)) (nn (by decide)) (nn (by decide)) (nn (by decide)) (nn (by decide))⟩
  · intro z hz; rw [n30] at hz; rw [n25, nn (n := 0) (by decide)]; split
    · exact hw
    · exact a.2.2.1 z (by omega)
  · intro x y hx hy hz; rw [nn (n := 0) (by decide), n30] at hz; exact l x y hx hy (by omega)
  · intro t z hz; rw [n30] at hz; rw [hB (by decide)]; exact cc.1 t z (by omega)
  · intro t; rw [nn (n := 15) (by decide), n30, hB (by decide), cntN_s, cc.1 t _ (Nat.le_refl _)]; simpa using cc.2 t
  · exact k.fr n31 (fun t _ => ⟨by rw [hB (by decide)], by rw [hB (by decide)], by rw [hB (by decide)]⟩) (fun _ _ => ⟨rfl, rfl⟩) (fun n t h1 h2 _ => by rw [nn (by omega)])
theorem GI.sites {c : Lg} (h : GI c) {x y : Nat} (hx : 2 ≤ x ∧ x ≤ 4) (hK : gN c 3 0 0 = 0) (hT : gN c 3 1 0 = 0) : GI (uN (uN c 0 0 0 x) 1 0 0 y) := by
  obtain ⟨a, l, cc, k, d, e, ff, g⟩ := h
  have nn : ∀ {n : Nat}, (n ≠ 0 ∧ n ≠ 1) → gN (uN (uN c 0 0 0 x) 1 0 0 y) n = gN c n := fun hn => by rw [gN_f _ _ _ _ _ hn.2, gN_f _ _ _ _ _ hn.1]
  have n0 : gN (uN (uN c 0 0 0 x) 1 0 0 y) 0 0 0 = x := by rw [gN_f _ _ _ _ _ (by decide), gN_uN]; simp
  have n3 := nn (n := 3) (by decide)
  have hz6 : ∀ w o, gN c 6 w o = 0 := by
    intro w o
    obtain ⟨⟨e1, -⟩, -, e4, -, e6, -⟩ := e
    rw [hT] at e6
    have e6 : gN c 6 0 0 + gN c 6 1 1 + gN c 6 2 2 + gN c 6 3 3 = 0 := e6
    by_cases z : gN c 0 0 0 ≤ o
    · exact e1 w o z
    · have := e4 w o
      have h4 := a.1.2
      match o, z with
      | 0, _ => omega
      | 1, _ => omega
      | 2, _ => omega
      | 3, _ => omega
      | n + 4, z => omega
  have hQ : gN c 3 2 0 = 0 := by
    by_cases z : gN c 3 2 0 = 0
    · exact z
    · have := (ff.1 0 (by omega)).2.2.2.2.1; omega
  refine ⟨⟨by rw [n0]; exact hx, by rw [n3]; exact a.2.1, ?_, ?_⟩, ?_, cc.fr (by rw [n3]) rfl (nn (by decide)), k.fr (by rw [n3]) (fun _ _ => ⟨rfl, rfl, rfl⟩) (fun _ _ => ⟨rfl, rfl⟩) (fun n t h1 h2 _ => by rw [nn (by omega)]), d.fr (nn (by decide)) (nn (by decide)) (nn (by decide)) (nn (by decide)), ?_, ?_, ?_⟩
  · intro z hz; rw [n3, hK] at hz; omega
  · intro z hz; rw [n3, hT] at hz; omega
  · intro w z hw hz _; exact l w z hw hz (Or.inr (by omega))
  · obtain ⟨⟨e1, e2⟩, e3, e4, e5, e6, e7, e8⟩ := e
    refine ⟨⟨fun w o _ => by rw [nn (by decide)]; exact hz6 w o, fun t o _ => by rw [nn (by decide)]; exact e2 t o (Or.inr (by omega))⟩, by rw [n3, nn (by decide)]; exact e3, by rw [nn (by decide)]; exact e4, by rw [n3, nn (n := 17) (by decide), nn (n := 6) (by decide), nn (n := 26) (by decide)]; exact e5, by rw [n3, nn (n := 17) (by decide), nn (n := 6) (by decide)]; exact e6, by rw [n3, nn (n := 17) (by decide), nn (n := 26) (by decide)]; exact e7, by rw [n3, nn (n := 17) (by decide), nn (n := 6) (by decide), nn (n := 26) (by decide), nn (n := 30) (by decide)]; exact e8⟩
  · refine ⟨fun i hi => by rw [n3, hQ] at hi; omega, fun i j hi => by rw [n3, hQ] at hi; omega⟩
  · obtain ⟨g1, g2, g3, g4⟩ := g
    have eq : ∀ f, qs (uN (uN c 0 0 0 x) 1 0 0 y) f = qs c f := fun f => by unfold qs; rw [n3, nn (by decide)]
    have eA : ∀ z, wA (uN (uN c 0 0 0 x) 1 0 0 y) z = wA c z := fun z => by funext q; unfold wA; rw [nn (by decide), nn (by decide)]
    have eY : ∀ z, wY (uN (uN c 0 0 0 x) 1 0 0 y) z = wY c z := fun z => by funext q; unfold wY; rw [nn (by decide), nn (by decide)]
    have eP : wP (uN (uN c 0 0 0 x) 1 0 0 y) = wP c := by funext q; unfold wP; rw [nn (by decide)]
    have ep : pot (uN (uN c 0 0 0 x) 1 0 0 y) = pot c := by funext q; unfold pot; rw [nn (by decide)]
    refine ⟨fun z => ?_, fun z => by rw [eq, eY, nn (by decide), nn (by decide)]; exact g2 z, by rw [eq, eP, ep, n3, nn (by decide)]; exact g3, by rw [ep, n3]; exact g4⟩
    rw [eq, eA, n0, nn (n := 17) (by decide), nn (n := 20) (by decide)]
    obtain ⟨-, -, -, -, -, -, -, k17, -⟩ := k z (by omega)
    have := (g1 z).2 k17
    exact ⟨by omega, fun _ => this⟩
theorem cntN_upd {q q' : Nat → Bool} {k : Nat} (h : ∀ i, i ≠ k → q' i = q i) (h1 : q k = false) (h2 : q' k = true) {n : Nat} (hn : k < n) : cntN q' n = cntN q n + 1 := by
  rw [cntN_sum, cntN_sum]
  have := sumN_upd (f := fun i => if q i = true then 1 else 0) (g := fun i => if q' i = true then 1 else 0) (t := k) (fun i hi => by simp only [h i hi]) hn
  simp only [h1, h2] at this
  simp at this
  omega
theorem GI.put {c : Lg} (h : GI c) {t k : Nat} {x : Int64} (ht : t < gN c 3 1 0) (hk : k < gN c 3 0 0) (hs : gN c 16 t 0 = 0) : GI (cPut c t k x) := by
  obtain ⟨a, l, cc, kk, d, e, ff, g⟩ := h
  have hJ : gK (cPut c t k x) ↔ gK (cP1 c t k) := by
    constructor
    · intro h z hz
      have := h z hz
      obtain ⟨d1, d2, d3, d4, d5, d6⟩ := this
      refine ⟨d1, fun j => ?_, d3, d4, d5, d6⟩
      have := d2 j
      unfold cPut at this; rw [gJ_uJ, if_neg] at this; exact this
      rintro ⟨-, rfl, -⟩
      have hz : gN (cP1 c z k) 3 1 0 ≤ z := hz
      rw [cP1_f _ _ _ (by decide)] at hz; omega
    · intro h z hz
      have := h z hz
      obtain ⟨d1, d2, d3, d4, d5, d6⟩ := this
      refine ⟨d1, fun j => ?_, d3, d4, d5, d6⟩
      have := d2 j
      unfold cPut; rw [gJ_uJ, if_neg]; exact this
      rintro ⟨-, rfl, -⟩
      have hz : gN (cP1 c z k) 3 1 0 ≤ z := hz
      rw [cP1_f _ _ _ (by decide)] at hz; omega
  have key : GI (cP1 c t k) → GI (cPut c t k x) := fun ⟨a, l, cc, kk, d, e, ff, g⟩ => ⟨a, l, cc, hJ.mpr kk, d, e, ff, g⟩
  apply key
  unfold cP1; split
  · exact ⟨a, l, cc, kk, d, e, ff, g⟩
  · rename_i hb
    have hb : gB c 10 t k = false := by simpa using hb
    have nn : ∀ {n : Nat}, n ≠ 15 → gN (uN (uB c 10 t k true) 15 t 0 (gN c 15 t 0 + 1)) n = gN c n := fun hn => by rw [gN_f _ _ _ _ _ hn]; rfl
    have n3 := nn (n := 3) (by decide)
    have n15 : ∀ z, gN (uN (uB c 10 t k true) 15 t 0 (gN c 15 t 0 + 1)) 15 z 0 = if z = t then gN c 15 t 0 + 1 else gN c 15 z 0 := fun z => by rw [gN_uN]; simp; rfl
    have nB : ∀ f i j, gB (uN (uB c 10 t k true) 15 t 0 (gN c 15 t 0 + 1)) f i j = if f = 10 ∧ i = t ∧ j = k then true else gB c f i j := fun f i j => gB_uB c 10 t k true f i j
    have hI : gI (uN (uB c 10 t k true) 15 t 0 (gN c 15 t 0 + 1)) = gI c := rfl
    have hJ' : gJ (uN (uB c 10 t k true) 15 t 0 (gN c 15 t 0 + 1)) = gJ c := rfl
    clear key hJ
    generalize uN (uB c 10 t k true) 15 t 0 (gN c 15 t 0 + 1) = C at *
    refine ⟨a.fr (nn (by decide)) (by rw [n3]) (by rw [n3]) (nn (by decide)) (nn (by decide)), ?_, ⟨fun z j hj => ?_, fun z => ?_⟩, ?_, ?_, e.fr (nn (by decide)) (by rw [n3]) (fun w hw => by rw [n3]) (nn (by decide)) (nn (by decide)) (nn (by decide)) (nn (by decide)) (nn (by decide)), ff.fr (nn (by decide)) (by rw [n3]) (by rw [n3]) (nn (by decide)) (nn (by decide)) (nn (by decide)) (nn (by decide)) (nn (by decide)) (nn (by decide)) (nn (by decide)) (nn (by decide)) (nn (by decide)), g.fr (nn (by decide)) (by rw [n3]) (by rw [n3]) (nn (by decide)) (nn (by decide)) (nn (by decide)) (nn (by decide)) (nn (by decide)) (nn (by decide)) (nn (by decide)) (nn (by decide))⟩
    · exact l.fr (nn (by decide)) (by rw [n3]) hI
    · rw [n3] at hj; rw [nB, if_neg (by omega)]; exact cc.1 z j hj
    · rw [n15, n3]
      by_cases y : z = t
      · subst y
        rw [if_pos rfl, cntN_upd (q := gB c 10 z) (q' := gB C 10 z) (k := k) (fun i hi => by rw [nB, if_neg (by omega)]) hb (by rw [nB, if_pos ⟨rfl, rfl, rfl⟩]) hk, cc.2 z]
      · rw [if_neg y, cc.2 z]
        exact cntN_congr (fun i _ => by rw [nB, if_neg (by omega)])
    · refine kk.fr (by rw [n3]) (fun z hz => ⟨?_, ?_, ?_⟩) (fun _ _ => by rw [hJ']; exact ⟨rfl, rfl⟩) (fun n z h1 h2 hz => ?_)
      · funext j; rw [nB, if_neg (by omega)]
      · funext j; rw [nB, if_neg (by omega)]
      · funext j; rw [nB, if_neg (by omega)]
      · by_cases y : n = 15
        · subst y; rw [n15, if_neg (by omega)]
        · rw [nn y]
    · intro z
      rw [nn (n := 16) (by decide), nn (n := 17) (by decide), nn (n := 18) (by decide), n15]
      have dz := d z
      by_cases y : z = t
      · rw [if_pos y]; exact ⟨dz.1, dz.2.1, fun _ => by omega, dz.2.2.2⟩
      · rw [if_neg y]; exact dz
theorem GI.addTo {c : Lg} (h : GI c) {t x : Nat} {n : Int32} (ht : t < gN c 3 1 0) : GI (cAddTo c t x n) := by
  obtain ⟨a, l, cc, kk, d, e, ff, g⟩ := h
  refine ⟨a, l, cc, ?_, d, e, ff, g⟩
  refine gK.fr (c := c) kk rfl (fun z hz => ⟨rfl, rfl, ?_⟩) (fun z hz => ⟨rfl, ?_⟩) (fun _ _ _ _ _ => rfl)
  · funext j; unfold cAddTo; rw [gB_uB, if_neg (by omega)]; rfl
  · funext j; unfold cAddTo
    show gJ (uJ c 12 t x (gJ c 12 t x + n.toInt64)) 12 z j = _
    rw [gJ_uJ, if_neg (by omega)]
theorem GI.allS {c : Lg} (h : GI c) : GI (cAllS c) := by
  rcases hf : cFirst c with _ | i
  · rw [cAllS_none hf]; exact h
  · rw [cAllS_some hf]
    have := firstN_is hf
    exact h.recv this.1 this.2
theorem GI.all {c : Lg} (h : GI c) : ∀ i, GI (cAll c i)
  | 0 => h
  | i + 1 => (GI.all h i).allS
theorem GI.msg {c : Lg} (h : GI c) {i : Nat} (hi : i < gN c 3 2 0) : gN c 22 (gN c 31 0 i) 0 < 4 ∧ gN c 23 (gN c 31 0 i) 0 < 4 ∧ gN c 24 (gN c 31 0 i) 0 < 150 ∧ gN c 26 (gN c 24 (gN c 31 0 i) 0) 0 < 4 := by
  have hm := h.2.2.2.2.2.2.1.1 i hi
  have hn := h.1.1.2
  have ht := h.1.2.1.2
  have := h.1.2.2.2 _ hm.2.2.2.2.1
  have h2 := hm.2.2.1; have h3 := hm.2.2.2.1; have h4 := hm.2.2.2.2.1
  exact ⟨by omega, by omega, by omega, by omega⟩
theorem GI.kc1 {c : Lg} (h : GI c) : kc c ≤ kc (cAllS c) ∧ ks c ≤ ks (cAllS c) := by
  rcases hf : cFirst c with _ | i
  · rw [cAllS_none hf]; exact ⟨Nat.le_refl _, Nat.le_refl _⟩
  · rw [cAllS_some hf]
    have hm := h.msg (firstN_is hf).1
    have hr := kc_rem c i
    have nn : ∀ {n : Nat}, (n ≠ 3 ∧ n ≠ 31) → gN (cRem c i) n = gN c n := fun hn => cRem_N _ _ hn
    have := kc_recv (cRem c i) (gN c 31 0 i) (by rw [nn (by decide), nn (by decide)]; exact hm.2.2.2) (by rw [nn (by decide)]; exact hm.2.1)
    unfold cDl; omega
theorem GI.kcA {c : Lg} (h : GI c) (i : Nat) : ∀ j, i ≤ j → kc (cAll c i) ≤ kc (cAll c j) ∧ ks (cAll c i) ≤ ks (cAll c j)
  | 0, hj => by rw [show i = 0 by omega]; exact ⟨Nat.le_refl _, Nat.le_refl _⟩
  | j + 1, hj => by
    by_cases z : i = j + 1
    · rw [z]; exact ⟨Nat.le_refl _, Nat.le_refl _⟩
    · have h1 := GI.kcA h i j (by omega)
      have h2 := (h.all j).kc1
      rw [cAll_s]; omega
theorem GI.nbD {c : Lg} (h : GI c) (hN : Nb c) {i : Nat} (hi : i < gN c 3 2 0) : Nb (cDl c i) := by
  have hm := h.msg hi
  have nn : ∀ {n : Nat}, (n ≠ 3 ∧ n ≠ 31) → gN (cRem c i) n = gN c n := fun hn => cRem_N _ _ hn
  unfold cDl
  refine Nb.recv (nb_rem hN) (Okc.rem h.okc i) ?_ ?_ ?_ ?_ ?_
  · rw [nn (by decide)]; exact hm.1
  · rw [nn (by decide)]; exact hm.2.1
  · rw [nn (by decide)]; have := hm.2.2.1; omega
  · rw [nn (by decide), nn (by decide)]; exact hm.2.2.2
  · rw [nn (by decide)]; exact h.1.1.2
theorem GI.nbA {c : Lg} (h : GI c) (hN : Nb c) : ∀ i, Nb (cAll c i)
  | 0 => hN
  | i + 1 => by
    have ih := GI.nbA h hN i
    rw [cAll_s]
    rcases hf : cFirst (cAll c i) with _ | k
    · rw [cAllS_none hf]; exact ih
    · rw [cAllS_some hf]; exact (h.all i).nbD ih (firstN_is hf).1
theorem GI.init : GI cInit := by
  have hN := cInit_N
  have hB : ∀ f i j, gB cInit f i j = false := fun f i j => by unfold cInit; rw [cFill_B, cFill_B, cFill_B, cFill_B]; rfl
  have hJ : ∀ f i j, gJ cInit f i j = 0 := fun f i j => by unfold cInit; rw [cFill_J, cFill_J, cFill_J, cFill_J]; rfl
  have hI : ∀ w k, w < 4 → k < 12 → gI cInit 7 w k = -4 := by
    intro w k hw hk
    unfold cInit; rw [cFill_I, cFill_I, cFill_I, cFill_I]
    rcases (show w = 0 ∨ w = 1 ∨ w = 2 ∨ w = 3 by omega) with rfl | rfl | rfl | rfl <;> simp [hk]
  have z : ∀ n i j, n ≠ 0 → n ≠ 1 → gN cInit n i j = 0 := by
    intro n i j h0 h1; rw [hN]; unfold c00; rw [gN_f _ _ _ _ _ h1, gN_f _ _ _ _ _ h0]; rfl
  have z0' : gN cInit 0 0 0 = 3 := by rw [hN]; rfl
  generalize cInit = c at *
  have e3 : ∀ i, gN c 3 i 0 = 0 := fun i => z 3 i 0 (by decide) (by decide)
  refine ⟨⟨by rw [z0']; decide, by rw [e3, e3]; decide, fun k hk => by rw [e3] at hk; omega, fun k hk => by rw [e3] at hk; omega⟩, fun w k hw hk _ => hI w k hw hk, ⟨fun t k _ => hB _ _ _, fun t => by rw [e3, z _ _ _ (by decide) (by decide)]; rfl⟩, fun t _ => ⟨fun j => hB _ _ _, fun j => hJ _ _ _, fun j => hJ _ _ _, fun j => hB _ _ _, hB _ _ _, z _ _ _ (by decide) (by decide), z _ _ _ (by decide) (by decide), z _ _ _ (by decide) (by decide), z _ _ _ (by decide) (by decide), z _ _ _ (by decide) (by decide), z _ _ _ (by decide) (by decide)⟩, fun t => ?_, ⟨⟨fun w o _ => z _ _ _ (by decide) (by decide), fun w o _ => z _ _ _ (by decide) (by decide)⟩, fun w hw => ?_, fun w p => ?_, fun t ht => by rw [e3] at ht; omega, ?_, fun t t' ht => by rw [e3] at ht; omega, fun w i hw hi => by rw [e3] at hi; omega⟩, ⟨fun i hi => by rw [e3] at hi; omega, fun i j hi => by rw [e3] at hi; omega⟩, ⟨fun t => ?_, fun t => ?_, ?_, ?_⟩⟩
  · rw [z 16 _ _ (by decide) (by decide), z 17 _ _ (by decide) (by decide), z 18 _ _ (by decide) (by decide)]; exact ⟨by decide, fun _ => rfl, fun q => by omega, fun _ => rfl, by decide⟩
  · rw [e3, z 6 _ _ (by decide) (by decide), z 6 _ _ (by decide) (by decide), z 6 _ _ (by decide) (by decide), z 6 _ _ (by decide) (by decide)]
  · rw [z 6 _ _ (by decide) (by decide), z 6 _ _ (by decide) (by decide)]; exact Nat.le_refl _
  · rw [e3, z 6 _ _ (by decide) (by decide), z 6 _ _ (by decide) (by decide), z 6 _ _ (by decide) (by decide), z 6 _ _ (by decide) (by decide)]; rfl
  · have : qs c (wA c t) = 0 := by unfold qs; rw [e3]; rfl
    rw [this, z 20 _ _ (by decide) (by decide), z0']; simp [z0]
  · have : qs c (wY c t) = 0 := by unfold qs; rw [e3]; rfl
    rw [this, z 19 _ _ (by decide) (by decide)]; simp [z0]
  · have : qs c (wP c) = 0 := by unfold qs; rw [e3]; rfl
    rw [this, e3, z 32 _ _ (by decide) (by decide)]; simp [sumN]
  · rw [e3, e3]; simp [sumN]
/-- the room -/
theorem GI.room {c : Lg} (h : GI c) : kc c ≤ 6000 ∧ ks c ≤ 6000000 := by
  have hok := h.okm
  obtain ⟨a, -, -, -, -, -, -, -, -, g3, -⟩ := h
  have h2 := a.2.1.2; have h1 := a.2.1.1
  have w0 := hok.2.1 0 (by decide); have w1 := hok.2.1 1 (by decide); have w2 := hok.2.1 2 (by decide); have w3 := hok.2.1 3 (by decide)
  unfold kc ks
  simp only [Nat.add_zero, show 3 + 1 = 4 from rfl, show 3 + 2 = 5 from rfl, show 3 + 3 = 6 from rfl] at w0 w1 w2 w3
  omega

set_option maxHeartbeats 1000000 in
theorem SZ.post {env : Ev} {u : St} {a x f t o mm q' : Nat} (hZ : SZ env u) (hf : f < 4) (ht : t < 4) (ho : o < gN u.2.1 3 1 0) (hq : gN u.2.1 3 2 0 ≤ 2400) : ∃ ph, adF (vM (mkP u a x f t o) 1 2 mm) 2 a q' = (ph, cPost u.2.1 x f t o, u.2.2) ∧ SZ env (ph, cPost u.2.1 x f t o, u.2.2) ∧ Kp u (ph, cPost u.2.1 x f t o, u.2.2) := by
  obtain ⟨hI, hX⟩ := hZ
  have hfr : (14, gN u.2.1 32 0 0) ∉ sK u := fun z => by have := hX.1 _ z; omega
  have e3 : gN (cPq u.2.1 x f t o) 3 = gN u.2.1 3 := cPq_N _ _ _ _ _ (by decide)
  have hP : PI env (vM (mkP u a x f t o) 1 2 mm) := by
    refine hI.pi.mk (fun f hf => ?_) (fun z => rfl) (fun k j hk => ?_) e3
    · show up2 (sM u) 1 2 mm f = _; unfold up2; rw [if_neg hf]
    · show (k, j) ∈ sK u ++ [(14, gN u.2.1 32 0 0)] ↔ _
      rcases hk with rfl | rfl <;> simp
  have hAF := AF (b := a) (q := q') hP (i := 2) (by decide) (by show gN (cPq u.2.1 x f t o) 3 2 0 ≤ _; rw [e3]; exact hq)
  generalize adF (vM (mkP u a x f t o) 1 2 mm) 2 a q' = v at hAF ⊢
  obtain ⟨e, k1, k2, s1, s2, s3, pi⟩ := hAF
  obtain ⟨ph, v2⟩ := v
  have e : v2 = (cPost u.2.1 x f t o, u.2.2) := by
    rw [show v2 = (uN (cPq u.2.1 x f t o) 3 2 0 (gN (cPq u.2.1 x f t o) 3 2 0 + 1), u.2.2) from e, e3]; rfl
  subst e
  refine ⟨ph, rfl, ?_⟩
  generalize hv : ((ph, cPost u.2.1 x f t o, u.2.2) : St) = v at *
  have ev : v.2.1 = cPost u.2.1 x f t o := by rw [← hv]
  have hk : ∀ k j, k ≠ 3 → ((k, j) ∈ sK v ↔ (k, j) ∈ sK u ∨ (k = 14 ∧ j = gN u.2.1 32 0 0)) := by
    intro k j h
    rw [k1 k j h]
    show (k, j) ∈ sK u ++ [(14, gN u.2.1 32 0 0)] ↔ _
    rw [List.mem_append, List.mem_singleton, Prod.mk.injEq]
  have hk' : ∀ k j, k ≠ 3 → k ≠ 14 → ((k, j) ∈ sK v ↔ (k, j) ∈ sK u) := by
    intro k j h h'; rw [hk k j h]; simp [h']
  have hA : ∀ k j, k ≠ 3 → k ≠ 14 → sA v k j = sA u k j := by
    intro k j h h'
    rw [k2 k j h]
    show up2 (sA u) 14 _ a k j = _
    unfold up2; rw [if_neg h']
  have hA14 : ∀ j, j ≠ gN u.2.1 32 0 0 → sA v 14 j = sA u 14 j := by
    intro j h
    rw [k2 14 j (by decide)]
    show up2 (sA u) 14 _ a 14 j = _
    unfold up2; simp [h]
  have hAn : sA v 14 (gN u.2.1 32 0 0) = a := by
    rw [k2 14 _ (by decide)]
    show up2 (sA u) 14 _ a 14 _ = _
    unfold up2; simp
  have n3 : ∀ i, gN v.2.1 3 i 0 = if i = 2 then gN u.2.1 3 2 0 + 1 else gN u.2.1 3 i 0 := by
    intro i; rw [ev]; unfold cPost; rw [gN_uN, e3]; simp
  have nn : ∀ n, (n ≠ 3 ∧ n ≠ 21 ∧ n ≠ 22 ∧ n ≠ 23 ∧ n ≠ 24 ∧ n ≠ 31 ∧ n ≠ 32) → gN v.2.1 n = gN u.2.1 n := fun n h => by rw [ev]; exact cPost_N _ _ _ _ _ h
  have n0 := nn 0 (by decide); have n25 := nn 25 (by decide); have n26 := nn 26 (by decide); have n30 := nn 30 (by decide)
  have n22 : ∀ j, gN v.2.1 22 j 0 = if j = gN u.2.1 32 0 0 then f else gN u.2.1 22 j 0 := by
    intro j; rw [ev]; unfold cPost cPq gM; simp [gN_uN]
  have n23 : ∀ j, gN v.2.1 23 j 0 = if j = gN u.2.1 32 0 0 then t else gN u.2.1 23 j 0 := by
    intro j; rw [ev]; unfold cPost cPq gM; simp [gN_uN]
  have n24 : ∀ j, gN v.2.1 24 j 0 = if j = gN u.2.1 32 0 0 then o else gN u.2.1 24 j 0 := by
    intro j; rw [ev]; unfold cPost cPq gM; simp [gN_uN]
  have n31 : ∀ j, gN v.2.1 31 0 j = if j = gN u.2.1 3 2 0 then gN u.2.1 32 0 0 else gN u.2.1 31 0 j := by
    intro j; rw [ev]; unfold cPost cPq gM; simp [gN_uN]
  have n32 : gN v.2.1 32 0 0 = gN u.2.1 32 0 0 + 1 := by rw [ev]; unfold cPost cPq gM; simp [gN_uN]
  have w2 : ∀ i, sM (vM (mkP u a x f t o) 1 2 mm) 2 i = sM u 2 i := fun i => rfl
  have wE : sE (vM (mkP u a x f t o) 1 2 mm) = sE u := rfl
  have wn : gN (vM (mkP u a x f t o) 1 2 mm).2.1 3 2 0 = gN u.2.1 3 2 0 := by show gN (cPq u.2.1 x f t o) 3 2 0 = _; rw [e3]
  rw [wn] at s2 s3
  have hKp : Kp u v := by
    intro k i h hm
    refine ⟨(hk k i h).mpr (Or.inl hm), ?_⟩
    by_cases z : k = 14
    · subst z; exact hA14 i (fun y => hfr (y ▸ hm))
    · exact hA k i h z
  refine ⟨⟨?_, ?_⟩, hKp⟩
  · refine ⟨⟨(hKp 0 0 (by decide) hI.k0).1, (hKp 1 0 (by decide) hI.k1).1, fun i hi => (hKp 2 i (by decide) (hI.k2 hi)).1, fun i hi => ⟨(hKp 5 i (by decide) (hI.k5 hi)).1, (hKp 6 i (by decide) (hI.k6 hi)).1, (hKp 7 i (by decide) (hI.k7 hi)).1⟩⟩, ⟨?_, ?_, ?_⟩, ⟨?_, ?_, ?_⟩, ?_, ⟨?_, ?_, ?_, ?_⟩, pi, ?_⟩
    · intro k h; rw [n3] at h; exact (hKp 4 k (by decide) (hI.k4 h)).1
    · intro k h; rw [n3, n25]; exact hI.th ((hk' 4 k (by decide) (by decide)).mp h)
    · rw [n3]; exact hI.nth
    · intro k h; rw [n3] at h; exact (hKp 8 k (by decide) (hI.k8 h)).1
    · intro k h
      have h := (hk' 8 k (by decide) (by decide)).mp h
      rw [n3, n26]
      exact ⟨(hI.tx h).1, (hI.tx h).2, (hKp 9 k (by decide) (hI.k9 h)).1, (hKp 10 k (by decide) (hI.k10 h)).1, (hKp 11 k (by decide) (hI.k11 h)).1, (hKp 12 k (by decide) (hI.k12 h)).1, (hKp 13 k (by decide) (hI.k13 h)).1⟩
    · rw [n3]; exact hI.ntx
    · intro q h
      rw [n22, n23, n24, n3]
      by_cases z : q = gN u.2.1 32 0 0
      · simp [z]; exact ⟨hf, ht, ho⟩
      · rw [if_neg z, if_neg z, if_neg z]
        rcases (hk 14 q (by decide)).mp h with y | y
        · exact hI.ms y
        · exact absurd y.2 z
    · intro j hj; rw [n3] at hj
      rw [s1 0 (by decide) (by decide), hA 4 j (by decide) (by decide)]; exact hI.e0 hj
    · intro j hj; rw [n3] at hj
      rw [s1 1 (by decide) (by decide), hA 8 j (by decide) (by decide)]; exact hI.e1 hj
    · intro j hj; rw [n3] at hj
      rw [n31]
      by_cases z : j = gN u.2.1 3 2 0
      · rw [if_pos z, hAn, z]; exact ⟨s3, (hk _ _ (by decide)).mpr (Or.inr ⟨rfl, rfl⟩)⟩
      · have hj : j < gN u.2.1 3 2 0 := by simp at hj; omega
        rw [if_neg z, s2 j hj]
        have := hKp 14 _ (by decide) (hI.k14 hj)
        exact ⟨(hI.e2 hj).trans (by rw [this.2]), this.1⟩
    · intro s hs j hj
      rw [n3, if_neg (by omega)] at hj
      rw [s1 (3 + s) (by omega) (by omega), n30, hA 8 _ (by decide) (by decide), n3]
      exact ⟨hI.e3 hs hj, hI.o3 hs hj⟩
    · rw [n0]; exact hI.nst
  · refine ⟨?_, ?_⟩
    · intro q h; rw [n32]
      rcases (hk 14 q (by decide)).mp h with y | y
      · have := hX.1 q y; omega
      · omega
    · intro k t' h1 h2 h3; rw [n3]
      exact hX.2 k t' h1 h2 ((hk' k t' (by omega) (by omega)).mp h3)
theorem SZ.cn {env : Ev} {u : St} {g : Lg} (hZ : SZ env u) (h : ∀ f, f < 4 ∨ 21 ≤ f → gN g f = gN u.2.1 f) : SZ env (wC u g) := by
  refine ⟨SI.same h hZ.1, ?_, ?_⟩
  · show ∀ q, (14, q) ∈ sK u → q < gN g 32 0 0
    rw [h 32 (by decide)]; exact hZ.2.1
  · show ∀ k t, 8 < k → k < 14 → (k, t) ∈ sK u → t < gN g 3 1 0
    rw [h 3 (by decide)]; exact hZ.2.2
/-! a site takes a transaction: its list grows -/
def cIn (c : Lg) (w t : Nat) : Lg := uN (uN c 30 w (gN c 3 (3 + w) 0) t) 3 (3 + w) 0 (gN c 3 (3 + w) 0 + 1)
theorem cIn_N (c : Lg) (w t : Nat) {n : Nat} (h : n ≠ 3 ∧ n ≠ 30) : gN (cIn c w t) n = gN c n := by
  unfold cIn; rw [gN_f _ _ _ _ _ h.1, gN_f _ _ _ _ _ h.2]
set_option maxHeartbeats 1000000 in
theorem SZ.into {env : Ev} {u : St} {w t a mm q' : Nat} (hZ : SZ env u) (hw : w < 4) (hm : (8, t) ∈ sK u) (ha : sA u 8 t = a) (hq : gN u.2.1 3 (3 + w) 0 ≤ 2400) : ∃ ph, adF (vM (wC u (uN u.2.1 30 w (gN u.2.1 3 (3 + w) 0) t)) 1 (3 + w) mm) (3 + w) a q' = (ph, cIn u.2.1 w t, u.2.2) ∧ SZ env (ph, cIn u.2.1 w t, u.2.2) ∧ Kp u (ph, cIn u.2.1 w t, u.2.2) := by
  obtain ⟨hI, hX⟩ := hZ
  have e3 : gN (uN u.2.1 30 w (gN u.2.1 3 (3 + w) 0) t) 3 = gN u.2.1 3 := gN_f _ _ _ _ _ (by decide)
  have hP : PI env (vM (wC u (uN u.2.1 30 w (gN u.2.1 3 (3 + w) 0) t)) 1 (3 + w) mm) := by
    refine hI.pi.mk (fun f hf => ?_) (fun z => rfl) (fun k j hk => Iff.rfl) e3
    show up2 (sM u) 1 (3 + w) mm f = _; unfold up2; rw [if_neg hf]
  have hAF := AF (b := a) (q := q') hP (i := 3 + w) (by omega) (by show gN (uN u.2.1 30 w (gN u.2.1 3 (3 + w) 0) t) 3 (3 + w) 0 ≤ _; rw [e3]; exact hq)
  generalize adF (vM (wC u (uN u.2.1 30 w (gN u.2.1 3 (3 + w) 0) t)) 1 (3 + w) mm) (3 + w) a q' = v at hAF ⊢
  obtain ⟨e, k1, k2, s1, s2, s3, pi⟩ := hAF
  obtain ⟨ph, v2⟩ := v
  have e : v2 = (cIn u.2.1 w t, u.2.2) := by
    rw [show v2 = (uN (uN u.2.1 30 w (gN u.2.1 3 (3 + w) 0) t) 3 (3 + w) 0 (gN (uN u.2.1 30 w (gN u.2.1 3 (3 + w) 0) t) 3 (3 + w) 0 + 1), u.2.2) from e, e3]; rfl
  subst e
  refine ⟨ph, rfl, ?_⟩
  generalize hv : ((ph, cIn u.2.1 w t, u.2.2) : St) = v at *
  have ev : v.2.1 = cIn u.2.1 w t := by rw [← hv]
  have hk : ∀ k j, k ≠ 3 → ((k, j) ∈ sK v ↔ (k, j) ∈ sK u) := k1
  have hA : ∀ k j, k ≠ 3 → sA v k j = sA u k j := k2
  have n3 : ∀ i, gN v.2.1 3 i 0 = if i = 3 + w then gN u.2.1 3 (3 + w) 0 + 1 else gN u.2.1 3 i 0 := by
    intro i; rw [ev]; unfold cIn; rw [gN_uN, e3]; simp
  have nn : ∀ n, (n ≠ 3 ∧ n ≠ 30) → gN v.2.1 n = gN u.2.1 n := fun n h => by rw [ev]; exact cIn_N _ _ _ h
  have n0 := nn 0 (by decide); have n25 := nn 25 (by decide); have n26 := nn 26 (by decide); have n31 := nn 31 (by decide); have n22 := nn 22 (by decide); have n23 := nn 23 (by decide); have n24 := nn 24 (by decide); have n32 := nn 32 (by decide)
  have n30 : ∀ s j, gN v.2.1 30 s j = if s = w ∧ j = gN u.2.1 3 (3 + w) 0 then t else gN u.2.1 30 s j := by
    intro s j; rw [ev]; unfold cIn; simp [gN_uN]
  have wn : gN (vM (wC u (uN u.2.1 30 w (gN u.2.1 3 (3 + w) 0) t)) 1 (3 + w) mm).2.1 3 (3 + w) 0 = gN u.2.1 3 (3 + w) 0 := by show gN (uN u.2.1 30 w (gN u.2.1 3 (3 + w) 0) t) 3 (3 + w) 0 = _; rw [e3]
  rw [wn] at s2 s3
  have hKp : Kp u v := fun k i h hm => ⟨(hk k i h).mpr hm, hA k i h⟩
  refine ⟨⟨?_, ?_⟩, hKp⟩
  · refine ⟨⟨(hKp 0 0 (by decide) hI.k0).1, (hKp 1 0 (by decide) hI.k1).1, fun i hi => (hKp 2 i (by decide) (hI.k2 hi)).1, fun i hi => ⟨(hKp 5 i (by decide) (hI.k5 hi)).1, (hKp 6 i (by decide) (hI.k6 hi)).1, (hKp 7 i (by decide) (hI.k7 hi)).1⟩⟩, ⟨?_, ?_, ?_⟩, ⟨?_, ?_, ?_⟩, ?_, ⟨?_, ?_, ?_, ?_⟩, pi, ?_⟩
    · intro k h; rw [n3, if_neg (by omega)] at h; exact (hKp 4 k (by decide) (hI.k4 h)).1
    · intro k h; rw [n3, n25, if_neg (by omega)]; exact hI.th ((hk 4 k (by decide)).mp h)
    · rw [n3, if_neg (by omega)]; exact hI.nth
    · intro k h; rw [n3, if_neg (by omega)] at h; exact (hKp 8 k (by decide) (hI.k8 h)).1
    · intro k h
      have h := (hk 8 k (by decide)).mp h
      rw [n3, n26, if_neg (by omega)]
      exact ⟨(hI.tx h).1, (hI.tx h).2, (hKp 9 k (by decide) (hI.k9 h)).1, (hKp 10 k (by decide) (hI.k10 h)).1, (hKp 11 k (by decide) (hI.k11 h)).1, (hKp 12 k (by decide) (hI.k12 h)).1, (hKp 13 k (by decide) (hI.k13 h)).1⟩
    · rw [n3, if_neg (by omega)]; exact hI.ntx
    · intro q h
      rw [n22, n23, n24, n3, if_neg (by omega)]
      exact hI.ms ((hk 14 q (by decide)).mp h)
    · intro j hj; rw [n3, if_neg (by omega)] at hj
      rw [s1 0 (by decide) (by omega), hA 4 j (by decide)]; exact hI.e0 hj
    · intro j hj; rw [n3, if_neg (by omega)] at hj
      rw [s1 1 (by decide) (by omega), hA 8 j (by decide)]; exact hI.e1 hj
    · intro j hj; rw [n3, if_neg (by omega)] at hj
      rw [n31, s1 2 (by decide) (by omega), hA 14 _ (by decide)]
      exact ⟨hI.e2 hj, (hKp 14 _ (by decide) (hI.k14 hj)).1⟩
    · intro s hs j hj
      rw [n3] at hj
      rw [n30, n3, if_neg (show ¬ 1 = 3 + w by omega)]
      by_cases z : s = w
      · subst z
        rw [if_pos rfl] at hj
        by_cases z : j = gN u.2.1 3 (3 + s) 0
        · rw [if_pos ⟨rfl, z⟩, hA 8 t (by decide), ha, z]
          exact ⟨s3, (hI.tx hm).1⟩
        · have hj : j < gN u.2.1 3 (3 + s) 0 := by omega
          rw [if_neg (fun h => z h.2), s2 j hj, hA 8 _ (by decide)]
          exact ⟨hI.e3 hs hj, hI.o3 hs hj⟩
      · rw [if_neg (by omega)] at hj
        rw [if_neg (fun h => z h.1), s1 (3 + s) (by omega) (by omega), hA 8 _ (by decide)]
        exact ⟨hI.e3 hs hj, hI.o3 hs hj⟩
    · rw [n0]; exact hI.nst
  · refine ⟨?_, ?_⟩
    · intro q h; rw [n32]; exact hX.1 q ((hk 14 q (by decide)).mp h)
    · intro k t' h1 h2 h3; rw [n3, if_neg (by omega)]
      exact hX.2 k t' h1 h2 ((hk k t' (by omega)).mp h3)
/-! a message leaves the queue -/
def cRem (c : Lg) (j : Nat) : Lg := ((fun f => if f = 31 then (fun i x => if i = 0 ∧ j ≤ x then gN c 31 0 (x + 1) else gN c 31 i x) else up3 (gN c) 3 2 0 (gN c 3 2 0 - 1) f), gB c, gI c, gJ c)
theorem cRem_N (c : Lg) (j : Nat) {n : Nat} (h : n ≠ 3 ∧ n ≠ 31) : gN (cRem c j) n = gN c n := by
  show (if n = 31 then _ else up3 (gN c) 3 2 0 _ n) = _
  rw [if_neg h.2]; unfold up3; rw [if_neg h.1]
theorem cRem_3 (c : Lg) (j i x : Nat) : gN (cRem c j) 3 i x = if i = 2 ∧ x = 0 then gN c 3 2 0 - 1 else gN c 3 i x := by
  show up3 (gN c) 3 2 0 (gN c 3 2 0 - 1) 3 i x = _
  unfold up3; rw [if_pos rfl]
theorem cRem_31 (c : Lg) (j x : Nat) : gN (cRem c j) 31 0 x = if j ≤ x then gN c 31 0 (x + 1) else gN c 31 0 x := by
  show (if 0 = 0 ∧ j ≤ x then gN c 31 0 (x + 1) else gN c 31 0 x) = _
  simp
set_option maxHeartbeats 1000000 in
theorem SZ.rem {env : Ev} {u : St} {j : Nat} (hZ : SZ env u) (hj : j < gN u.2.1 3 2 0) : SZ env (wC (rmF u 2 j) (cRem u.2.1 j)) ∧ Kp u (wC (rmF u 2 j) (cRem u.2.1 j)) := by
  obtain ⟨hI, hX⟩ := hZ
  have hc2 := hI.cap (i := 2) (by decide)
  have n3 : ∀ i, gN (cRem u.2.1 j) 3 i 0 = if i = 2 then gN u.2.1 3 2 0 - 1 else gN u.2.1 3 i 0 := by intro i; rw [cRem_3]; simp
  have nn : ∀ n, (n ≠ 3 ∧ n ≠ 31) → gN (cRem u.2.1 j) n = gN u.2.1 n := fun n h => cRem_N _ _ h
  have n0 := nn 0 (by decide); have n25 := nn 25 (by decide); have n26 := nn 26 (by decide); have n30 := nn 30 (by decide); have n22 := nn 22 (by decide); have n23 := nn 23 (by decide); have n24 := nn 24 (by decide); have n32 := nn 32 (by decide)
  have so : ∀ i, i < 7 → i ≠ 2 → sE (rmF u 2 j) (sM u 2 i) = sE u (sM u 2 i) := fun i hi hn => rm_E (fun z => hn (hI.apart (i := 2) (k := i) (by decide) hi (by omega) z.symm).symm)
  refine ⟨⟨⟨⟨hI.k0, hI.k1, fun i hi => hI.k2 hi, fun i hi => ⟨hI.k5 hi, hI.k6 hi, hI.k7 hi⟩⟩, ⟨?_, ?_, ?_⟩, ⟨?_, ?_, ?_⟩, ?_, ⟨?_, ?_, ?_, ?_⟩, ⟨?_, hI.pi.2.1, hI.pi.2.2.1, hI.pi.2.2.2.1, hI.pi.2.2.2.2⟩, ?_⟩, ?_, ?_⟩, Kp.rf u⟩
  · intro k (h : k < gN (cRem u.2.1 j) 3 0 0); rw [n3] at h; exact hI.k4 h
  · intro k h
    show k < gN (cRem u.2.1 j) 3 0 0 ∧ gN (cRem u.2.1 j) 25 k 0 < 4
    rw [n3, n25]; exact hI.th h
  · show gN (cRem u.2.1 j) 3 0 0 ≤ 12; rw [n3]; exact hI.nth
  · intro k (h : k < gN (cRem u.2.1 j) 3 1 0); rw [n3] at h; exact hI.k8 h
  · intro k h
    show k < gN (cRem u.2.1 j) 3 1 0 ∧ gN (cRem u.2.1 j) 26 k 0 < 4 ∧ _
    rw [n3, n26]; exact hI.2.2.1.2.1 k h
  · show gN (cRem u.2.1 j) 3 1 0 ≤ 150; rw [n3]; exact hI.ntx
  · intro q h
    show gN (cRem u.2.1 j) 22 q 0 < 4 ∧ gN (cRem u.2.1 j) 23 q 0 < 4 ∧ gN (cRem u.2.1 j) 24 q 0 < gN (cRem u.2.1 j) 3 1 0
    rw [n22, n23, n24, n3]; exact hI.ms h
  · intro x (h : x < gN (cRem u.2.1 j) 3 0 0); rw [n3] at h
    show sE (rmF u 2 j) (sM u 2 0) x = _
    rw [so 0 (by decide) (by decide)]; exact hI.e0 h
  · intro x (h : x < gN (cRem u.2.1 j) 3 1 0); rw [n3] at h
    show sE (rmF u 2 j) (sM u 2 1) x = _
    rw [so 1 (by decide) (by decide)]; exact hI.e1 h
  · intro x (h : x < gN (cRem u.2.1 j) 3 2 0); rw [n3, if_pos rfl] at h
    show sE (rmF u 2 j) (sM u 2 2) x = some (sA u 14 (gN (cRem u.2.1 j) 31 0 x)) ∧ (14, gN (cRem u.2.1 j) 31 0 x) ∈ sK u
    rw [cRem_31]
    by_cases z : j ≤ x
    · rw [if_pos z, rm_hi z h]; exact ⟨hI.e2 (by omega), hI.k14 (by omega)⟩
    · rw [if_neg z, rm_lo (by omega) hj]; exact ⟨hI.e2 (by omega), hI.k14 (by omega)⟩
  · intro s hs x (h : x < gN (cRem u.2.1 j) 3 (3 + s) 0); rw [n3, if_neg (by omega)] at h
    show sE (rmF u 2 j) (sM u 2 (3 + s)) x = some (sA u 8 (gN (cRem u.2.1 j) 30 s x)) ∧ gN (cRem u.2.1 j) 30 s x < gN (cRem u.2.1 j) 3 1 0
    rw [so (3 + s) (by omega) (by omega), n30, n3]
    exact ⟨hI.e3 hs h, hI.o3 hs h⟩
  · intro i hi
    show gN (cRem u.2.1 j) 3 i 0 ≤ sM u 0 (sM u 2 i) ∧ _
    have := hI.cap hi
    rw [n3]
    refine ⟨?_, this.2⟩
    by_cases z : i = 2
    · subst z; rw [if_pos rfl]; omega
    · rw [if_neg z]; exact this.1
  · show gN (cRem u.2.1 j) 0 0 0 ≤ 4; rw [n0]; exact hI.nst
  · show ∀ q, (14, q) ∈ sK u → q < gN (cRem u.2.1 j) 32 0 0
    rw [n32]; exact hX.1
  · show ∀ k t, 8 < k → k < 14 → (k, t) ∈ sK u → t < gN (cRem u.2.1 j) 3 1 0
    rw [n3]; exact hX.2

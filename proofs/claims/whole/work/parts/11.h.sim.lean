/-! a message comes to both -/
theorem Rel.recv {c m : Lg} (hG : GI c) (h : Rel c m) {i : Nat} (hi : i < gN c 3 2 0) (hcan : cCanCome c (gN c 31 0 i) = true) : Rel (cDl c i) (mComesNow m i) := by
  have hR := GX.rem hG hi
  have gR : GI (cRem c i) := hR.gi
  have rR := h.rem hi
  obtain ⟨e21, e23, e22, e24⟩ := h.2.2.2.2.2.2.2.1 i hi
  have hm := hG.2.2.2.2.2.2.1.1 i hi
  have hmsg := hG.msg hi
  unfold cDl mComesNow
  rw [← e21, ← e22, ← e23, ← e24]
  have nn : ∀ {n : Nat}, (n ≠ 3 ∧ n ≠ 31) → gN (cRem c i) n = gN c n := fun hn => cRem_N _ _ hn
  generalize hq : gN c 31 0 i = q at *
  have c21 : gN (cRem c i) 21 q 0 = gN c 21 q 0 := by rw [nn (by decide)]
  have c22 : gN (cRem c i) 22 q 0 = gN c 22 q 0 := by rw [nn (by decide)]
  have c23 : gN (cRem c i) 23 q 0 = gN c 23 q 0 := by rw [nn (by decide)]
  have c24 : gN (cRem c i) 24 q 0 = gN c 24 q 0 := by rw [nn (by decide)]
  have d31 : gN (cRem c i) 3 1 0 = gN c 3 1 0 := by rw [cRem_3, if_neg (by decide)]
  have d6 : gN (cRem c i) 6 = gN c 6 := nn (by decide)
  have d17 : gN (cRem c i) 17 = gN c 17 := nn (by decide)
  have d26 : gN (cRem c i) 26 = gN c 26 := nn (by decide)
  obtain ⟨-, m21, m22, m23, m24, m4⟩ := hm
  obtain ⟨b22, b23, b24, b26⟩ := hmsg
  have hsw : (cRecv (cRem c i) q) = (if gN c 21 q 0 = 0 then cAsk (cRem c i) q else if gN c 21 q 0 = 1 then cYes (cRem c i) (gN c 24 q 0) else if gN c 21 q 0 = 2 then cNo (cRem c i) (gN c 24 q 0) else if gN c 21 q 0 = 3 then cDrop (cRem c i) q else if gN c 21 q 0 = 4 then cSend (cRem c i) q else cAck (cRem c i) q) := by unfold cRecv; rw [c21, c24]
  rw [hsw]
  have hnoQ : ∀ x, x < gN (cRem c i) 3 2 0 → gN c 21 q 0 = 4 → gN (cRem c i) 21 (gN (cRem c i) 31 0 x) 0 = 4 → gN (cRem c i) 23 (gN (cRem c i) 31 0 x) 0 = gN c 23 q 0 → gN (cRem c i) 24 (gN (cRem c i) 31 0 x) 0 = gN c 24 q 0 → False := by
    intro x hx z a b d
    have e32 : gN (cRem c i) 3 2 0 = gN c 3 2 0 - 1 := by rw [cRem_3, if_pos ⟨rfl, rfl⟩]
    rw [e32] at hx
    rw [nn (n := 21) (by decide), cRem_31] at a
    rw [nn (n := 23) (by decide), cRem_31] at b
    rw [nn (n := 24) (by decide), cRem_31] at d
    have hfq := hG.2.2.2.2.2.2.1.2
    by_cases y : i ≤ x
    · rw [if_pos y] at a b d
      have := hfq (x + 1) i (by omega) hi a (by rw [hq]; exact z) (by rw [hq]; exact b) (by rw [hq]; exact d); omega
    · rw [if_neg y] at a b d
      have := hfq x i (by omega) hi a (by rw [hq]; exact z) (by rw [hq]; exact b) (by rw [hq]; exact d); omega
  have hT := gR.1.2.1.2
  have hK := gR.1.2.1.1
  have h3c : ∀ v, v < 4 → gN (cRem c i) 3 (3 + v) 0 ≤ 150 := fun v hv => gR.okm.2.1 v hv
  generalize cRem c i = C at *
  generalize mTake m i = M at *
  have hn2 := hG.1.1
  unfold mGot
  by_cases z0' : gN c 21 q 0 = 0
  · rw [if_pos z0', if_pos z0']
    unfold cAsk mGotAsk
    rw [c22, c23, c24, (rR.2.2.2.2.1.2.2 (gN c 24 q 0) (gN c 23 q 0) b23), rR.areFree gR b23]
    split
    · exact rR
    · split
      · have hL := rR.lock gR.1 (t := gN c 24 q 0) (w := gN c 23 q 0)
        have hF : gF (cLock C (gN c 24 q 0) (gN c 23 q 0) (gN C 3 0 0)) := (gR.lock _ _ rfl).2.2.2.2.2.2.1
        have := hL.post hF 1 (gN c 23 q 0) (gN c 22 q 0) (gN c 24 q 0)
        rw [cLock_N, c22, c23, c24]; exact this
      · exact rR.post gR.2.2.2.2.2.2.1 2 (gN c 23 q 0) (gN c 22 q 0) (gN c 24 q 0)
  rw [if_neg z0', if_neg z0']
  by_cases z1 : gN c 21 q 0 = 1
  · rw [if_pos z1, if_pos z1]
    have e61 : gN M 61 0 (gN c 24 q 0) = gN C 19 (gN c 24 q 0) 0 := ((rR.2.2.1 _).2.2.2.2.1).symm
    have e57 : gN M 57 0 (gN c 24 q 0) = gN C 16 (gN c 24 q 0) 0 := ((rR.2.2.1 _).2.1).symm
    have e62 : gN M 62 0 (gN c 24 q 0) = gN C 18 (gN c 24 q 0) 0 := ((rR.2.2.1 _).2.2.2.2.2).symm
    have hY := Rel.num rR 19 (by decide) (mn := 61) (by decide) (gN c 24 q 0) (gN C 19 (gN c 24 q 0) 0 + 1)
    have hwy : ∀ z, wY c z q = nY (gN c 21 q 0) (gN c 24 q 0) z := fun z => rfl
    have hR2 := hR
    simp only [hwy, z1] at hR2
    have g19 : GI (uN C 19 (gN c 24 q 0) 0 (gN C 19 (gN c 24 q 0) 0 + 1)) := (GX.f19 (yy := z0) hR2 (by rw [d31]; exact m24) (fun z => by simp [nY, z0, eq_comm])).gi
    unfold cYes mGotYes mY1
    rw [e61, e57, e62]
    by_cases s1 : gN C 16 (gN c 24 q 0) 0 = 1
    · by_cases s2 : gN C 19 (gN c 24 q 0) 0 + 1 = gN C 18 (gN c 24 q 0) 0
      · rw [if_pos s1, if_pos s2, if_pos ⟨s1, s2⟩]
        refine Rel.becomes g19 hY (by rw [gN_f _ _ _ _ _ (by decide), d31]; exact m24) (Or.inr (by rw [gN_f _ _ _ _ _ (by decide)]; exact s1)) ?_
        unfold cAny; rw [gN_f _ _ _ _ _ (by decide)]
        have := (gR.2.2.2.2.1 (gN c 24 q 0)).2.2.1 s1
        simp [this]
      · rw [if_pos s1, if_neg s2, if_neg (fun y => s2 y.2)]; exact hY
    · rw [if_neg s1, if_neg (fun y => s1 y.1)]; exact hY
  rw [if_neg z1, if_neg z1]
  by_cases z2 : gN c 21 q 0 = 2
  · rw [if_pos z2, if_pos z2]
    have e57 : gN M 57 0 (gN c 24 q 0) = gN C 16 (gN c 24 q 0) 0 := ((rR.2.2.1 _).2.1).symm
    unfold cNo mRefused
    rw [e57]
    by_cases s1 : gN C 16 (gN c 24 q 0) 0 = 1
    · rw [if_pos s1, if_pos s1]
      have h17 : gN C 17 (gN c 24 q 0) 0 = 0 := (gR.2.2.2.2.1 _).2.2.2.1 (by omega)
      have ht : gN c 24 q 0 < gN C 3 1 0 := by rw [d31]; exact m24
      have hS := GX.st gR (v := 3) (yy := z0) (yp := 6) (yq := 6) ht (by decide) (by decide) (fun y => by omega) (fun _ => h17) (fun _ _ => rfl) (gR.2.2.2.2.2.2.2.2.1 _).1 (by rw [pot_of s1]; simp [pv]) (by rw [pot_of s1]; simp [pv])
      have hU : GX (cNU C (gN c 24 q 0)) z0 z0 6 6 := hS.unlock (gN C 26 (gN c 24 q 0) 0) (gN c 24 q 0) 12
      have hN := Rel.num rR 16 (by decide) (mn := 57) (by decide) (gN c 24 q 0) 3
      have hNU := Rel.unlock hS.2.1 hS.1.2.1.1 hN (w := gN C 26 (gN c 24 q 0) 0) (t := gN c 24 q 0) (by omega)
      have eM : mR2 M (gN c 24 q 0) = mUnlock (uN M 57 0 (gN c 24 q 0) 3) (gN c 24 q 0) (gN C 26 (gN c 24 q 0) 0) (gN (uN M 57 0 (gN c 24 q 0) 3) 52 0 0) := by
        unfold mR2; rw [gN_f _ _ _ _ _ (by decide), (rR.2.2.1 _).1]
      have hNU : Rel (cNU C (gN c 24 q 0)) (mR2 M (gN c 24 q 0)) := by rw [eM]; exact hNU
      have e50 : gN M 50 0 0 = gN (cNU C (gN c 24 q 0)) 0 0 0 := by rw [cNU_N _ _ (by decide), rR.1.1]
      rw [e50]
      have hn := gR.1.1
      refine Rel.ref hNU (GX.toHF (xa := z0) (xy := z0) (Or.inr rfl) ?_ (hU.weak (fun _ => Nat.le_refl _) (fun z => by simp [nY, z0]) ?_ ?_)) _ (Nat.le_refl _)
      · rw [cNU_N _ _ (by decide)]; exact ht
      · rw [cNU_N _ _ (by decide)]; omega
      · rw [cNU_N _ _ (by decide)]; omega
    · rw [if_neg s1, if_neg s1]; exact rR
  rw [if_neg z2, if_neg z2]
  by_cases z3 : gN c 21 q 0 = 3
  · rw [if_pos z3, if_pos z3]
    unfold cDrop mGotDrop
    rw [c23, c24]
    have hB : Rel (uB C 13 (gN c 24 q 0) (gN c 23 q 0) true) (uB M 63 0 (4 * gN c 24 q 0 + gN c 23 q 0) true) := by
      obtain ⟨h0, h1, h2, h3, h4, h5, h6, h7, h8⟩ := rR
      have cB : ∀ {f : Nat}, f ≠ 13 → gB (uB C 13 (gN c 24 q 0) (gN c 23 q 0) true) f = gB C f := fun hf => by funext a b; rw [gB_uB, if_neg (fun z => hf z.1)]
      have mB : ∀ {f : Nat}, f ≠ 63 → gB (uB M 63 0 (4 * gN c 24 q 0 + gN c 23 q 0) true) f = gB M f := fun hf => by funext a b; rw [gB_uB, if_neg (fun z => hf z.1)]
      refine ⟨h0, h1.fr (c := C) rfl rfl (cB (by decide)) rfl (mB (by decide)), h2, h3, ⟨fun t k hk => ?_, h4.2.1, fun t w hw => ?_⟩, h5, h6, h7, h8.fr (c := C) rfl (cB (by decide)) (mB (by decide))⟩
      · rw [cB (by decide), mB (by decide)]; exact h4.1 t k hk
      · rw [gB_uB, gB_uB]
        by_cases z : t = gN c 24 q 0 ∧ w = gN c 23 q 0
        · rw [if_pos ⟨rfl, z⟩, if_pos ⟨rfl, rfl, by omega⟩]
        · rw [if_neg (fun y => z y.2), if_neg (by omega)]; exact h4.2.2 t w hw
    exact Rel.unlock (c := uB C 13 (gN c 24 q 0) (gN c 23 q 0) true) gR.2.1 gR.1.2.1.1 hB (by omega)
  rw [if_neg z3, if_neg z3]
  by_cases z4 : gN c 21 q 0 = 4
  · rw [if_pos z4, if_pos z4]
    obtain ⟨g1, g2, g3⟩ := m4 z4
    have ht : gN c 24 q 0 < gN C 3 1 0 := by rw [d31]; exact m24
    have hlt : gN C 3 (3 + gN c 23 q 0) 0 < 150 := by
      obtain ⟨-, e3, e4, e5, e6, -⟩ := gR.2.2.2.2.2.1
      have h5 := e5 _ ht
      have hs := e3 (gN c 23 q 0) b23
      have hle := cntN_le (fun z => decide (0 < gN C 17 z 0)) (gN C 3 1 0)
      have q0 := e4 (gN c 23 q 0) 0; have q1 := e4 (gN c 23 q 0) 1; have q2 := e4 (gN c 23 q 0) 2; have q3 := e4 (gN c 23 q 0) 3
      rw [d26, d17] at h5
      rw [← d6, ← d17] at g3
      rw [d17] at g3
      generalize gN c 26 (gN c 24 q 0) 0 = p at *
      rcases (show p = 0 ∨ p = 1 ∨ p = 2 ∨ p = 3 by omega) with rfl | rfl | rfl | rfl <;> omega
    have hTk := Rel.take gR.1 gR.2.1 rR (w := gN c 23 q 0) (t := gN c 24 q 0) b23 (by omega) (by rw [d26]; exact b26) hlt h3c
    have hk : gN C 6 (gN c 23 q 0) (gN C 26 (gN c 24 q 0) 0) + 1 = gN C 17 (gN c 24 q 0) 0 := by
      rw [d26, d17, d6]
      unfold cCanCome cCanTake at hcan
      rw [z4] at hcan
      simp at hcan
      omega
    have hGF : gF (cTake C (gN c 23 q 0) (gN c 24 q 0)) := by
      refine gR.2.2.2.2.2.2.1.take gR.2.2.2.2.2.1 ht hk ?_
      intro x hx a b d
      exact hnoQ x hx z4 a b d
    unfold cSend mComes cSd1
    rw [if_neg (by decide), c23, c24]
    have tN : ∀ {n : Nat}, (n ≠ 3 ∧ n ≠ 30 ∧ n ≠ 6) → gN (cTake C (gN c 23 q 0) (gN c 24 q 0)) n = gN C n := fun hn => cTake_N _ _ _ hn
    rw [tN (n := 22) (by decide), tN (n := 23) (by decide), tN (n := 24) (by decide), c22, c23, c24]
    have e56 : gN (mComes0 M (gN c 23 q 0) (gN c 24 q 0)) 56 0 (gN c 24 q 0) = gN c 22 q 0 := by
      rw [← (hTk.2.2.1 _).1, tN (n := 26) (by decide), d26, g1]
    rw [e56]
    exact hTk.post hGF 5 (gN c 23 q 0) (gN c 22 q 0) (gN c 24 q 0)
  · rw [if_neg z4, if_neg z4]
    unfold cAck
    rw [c24, ← (rR.2.2.1 (gN c 24 q 0)).2.2.2.1]
    exact Rel.num rR 20 (by decide) (mn := 60) (by decide) _ _
/-! commit -/
theorem Rel.any {c m : Lg} (hG : GI c) (h : Rel c m) (t : Nat) : cAny c t = mAny m t := by
  have hK := hG.1.2.1.1
  unfold cAny mAny mPlain
  rw [hG.2.2.1.2 t, h.2.2.2.2.2.2.2.2.1 t, ← h.1.2.2.1]
  have e : cntN (gB c 10 t) (gN c 3 0 0) = cntN (fun i => gB m 64 0 (12 * t + i)) (gN c 3 0 0) := cntN_congr (fun k hk => (h.2.2.2.2.1.1 t k (by omega)).1)
  rw [e]; rfl
theorem Rel.away {c m : Lg} (hG : GI c) (h : Rel c m) (t : Nat) : cElse c t = mAway m t := by
  have hK := hG.1.2.1.1
  unfold cElse mAway
  rw [Bool.eq_iff_iff, anyN_iff, anyN_iff, ← h.1.2.2.1, ← (h.2.2.1 t).1]
  unfold cHeQ mAwayQ cHasHome
  constructor
  · rintro ⟨w, hw, h1⟩
    simp at h1
    obtain ⟨k, hk, h2⟩ := anyN_iff.mp h1.2
    unfold cPlQ at h2
    simp at h2
    refine ⟨k, hk, ?_⟩
    rw [← (h.2.2.2.2.1.1 t k (by omega)).1, ← (h.2.1 k hk).1]
    simp [h2.1]; omega
  · rintro ⟨k, hk, h1⟩
    rw [← (h.2.2.2.2.1.1 t k (by omega)).1, ← (h.2.1 k hk).1] at h1
    simp at h1
    refine ⟨gN c 25 k 0, hG.1.2.2.1 k hk, ?_⟩
    simp
    refine ⟨h1.2, anyN_iff.mpr ⟨k, hk, ?_⟩⟩
    unfold cPlQ; simp [h1.1]
theorem Rel.commit {c m : Lg} (hG : GI c) (h : Rel c m) {t : Nat} (ht : t < gN c 3 1 0) (hs : gN c 16 t 0 = 0) : Rel (cCm c t) (mCommit m t) := by
  have hp := hG.1.2.2.2 t ht
  have hn := hG.1.1
  have hK := hG.1.2.1.1
  have h17 : gN c 17 t 0 = 0 := (hG.2.2.2.2.1 t).2.2.2.1 (by omega)
  unfold cCm mCommit
  rw [← (h.2.2.1 t).1, ← h.any hG t, ← h.areFree hG (show gN c 26 t 0 < 4 by omega), ← h.away hG t]
  by_cases ha : cAny c t = true
  · rw [if_neg (show ¬ cAny c t = false by rw [ha]; decide)]
    by_cases hf : cAllFree c t (gN c 26 t 0) = true
    · rw [if_pos hf, if_neg (show ¬ cAllFree c t (gN c 26 t 0) = false by rw [hf]; decide)]
      by_cases he : cElse c t = true
      · rw [if_pos he, if_neg (show ¬ cElse c t = false by rw [he]; decide)]
        have hL := hG.lock t (gN c 26 t 0) (n := gN c 3 0 0) rfl
        have n16 : gN (cLock c t (gN c 26 t 0) (gN c 3 0 0)) 16 t 0 = 0 := by rw [cLock_N]; exact hs
        have hY := (hG.2.2.2.2.2.2.2.2.1 t).2 hs
        have hS := GX.st hL (v := 1) (yy := fun z => z0 z + nY 0 t z * (gN c 0 0 0 - 1)) (yp := 6) (yq := 6) (by rw [cLock_N]; exact ht) (by decide) (by decide) (fun _ => by rw [cLock_N]; exact cElse_p hG.2.2.1 he) (fun _ => by rw [cLock_N]; exact h17) (fun z hz => by show z0 z + nY 0 t z * _ = z0 z; unfold nY; rw [if_neg (fun q => hz q.2.symm)]; simp) (by
          have e1 : qs (cLock c t (gN c 26 t 0) (gN c 3 0 0)) (wY (cLock c t (gN c 26 t 0) (gN c 3 0 0)) t) = qs c (wY c t) := by unfold qs wY; rw [cLock_N]
          rw [e1, cLock_N]; simp [nY, z0] at hY ⊢; omega) (by rw [pot_of n16]; simp [pv]) (by rw [pot_of n16]; simp [pv])
        have hS : GX (cCmL c t) z0 (fun z => z0 z + nY 0 t z * (gN c 0 0 0 - 1)) 6 6 := hS
        have e0 : gN (cCmL c t) 0 = gN c 0 := cCmL_N _ _ (by decide)
        have hGI := GX.toHF (c := cCmL c t) (xa := z0) (xy := z0) (t := t) (x := 0) (Or.inl rfl) (by rw [cCmL_N _ _ (by decide)]; exact ht) (by rw [e0]; exact hS.weak (fun _ => Nat.le_refl _) (fun _ => Nat.le_refl _) (by omega) (by omega))
        have r1' := Rel.num (h.lock hG.1 (t := t) (w := gN c 26 t 0)) 16 (by decide) (mn := 57) (by decide) t 1
        have h18 : gN (cCmL c t) 18 t 0 = 0 := by rw [cCmL_N _ _ (by decide)]; exact (hG.2.2.2.2.1 t).2.1 hs
        have := Rel.ask (c := cCmL c t) (p := gN c 26 t 0) (by rw [cCmL_N _ _ (by decide)]) h18 r1' hGI (gN (cCmL c t) 0 0 0) (Nat.le_refl _)
        rw [e0] at this
        rw [← h.1.1]
        unfold cCmA cCmH
        rw [e0]; exact this
      · rw [if_neg he, if_pos (show cElse c t = false by simpa using he)]
        exact h.becomes hG ht (Or.inl hs) ha
    · rw [if_neg hf, if_pos (show cAllFree c t (gN c 26 t 0) = false by simpa using hf)]
      exact Rel.num h 16 (by decide) (mn := 57) (by decide) t 3
  · rw [if_pos (show cAny c t = false by simpa using ha)]
    have ha2 : cAny c t = false := by simpa using ha
    have h15 : gN c 15 t 0 = 0 := by
      unfold cAny at ha2; simp at ha2; omega
    have hB : ∀ k, k < gN c 3 0 0 → gB c 10 t k = false := by
      intro k hk
      have := hG.2.2.1.2 t
      rw [h15] at this
      by_cases y : gB c 10 t k = true
      · exfalso
        have hlt : ∀ {n : Nat}, k < n → 0 < cntN (gB c 10 t) n := by
          intro n hn
          induction n with
          | zero => omega
          | succ n ih =>
            rw [cntN_s]
            by_cases z : k = n
            · subst z; rw [if_pos y]; omega
            · have := ih (by omega); omega
        have := hlt hk; omega
      · simpa using y
    have hf : cAllFree c t (gN c 26 t 0) = true := by
      unfold cAllFree; rw [allN_iff]; intro k hk; unfold cAfQ cPlQ; rw [hB k hk]; rfl
    have he : ¬ cElse c t = true := by
      intro y; have := cElse_p hG.2.2.1 y; omega
    rw [if_pos hf, if_neg he]
    unfold cMk
    have ha' : ¬ cAny (cM1 c t) t = true := by unfold cAny at *; rw [cM1_N _ _ (by decide)]; exact ha
    rw [if_neg ha']
    exact Rel.num h 16 (by decide) (mn := 57) (by decide) t 2
/-! all -/
theorem mAllF_s (m : Lg) (d : Nat) : mAllF m (d + 1) = match mFirst (mAllF m d) with | none => mAllF m d | some i => mComesNow (mAllF m d) i := rfl
theorem mAllC_s (m : Lg) (d : Nat) : mAllC m (d + 1) = mAllC m d + (if (mFirst (mAllF m d)).isSome = true then 1 else 0) := rfl
theorem Rel.all {c m : Lg} (hG : GI c) (h : Rel c m) : ∀ d, Rel (cAll c d) (mAllF m d) ∧ cAllK c d = mAllC m d
  | 0 => ⟨h, rfl⟩
  | d + 1 => by
    obtain ⟨i1, i2⟩ := Rel.all hG h d
    have g := hG.all d
    have ef := i1.first g
    rw [cAll_s, mAllF_s, cAllK_s, mAllC_s, ← ef, i2]
    refine ⟨?_, rfl⟩
    rcases hf : cFirst (cAll c d) with _ | k
    · rw [cAllS_none hf]; exact i1
    · rw [cAllS_some hf]
      have := firstN_is hf
      exact i1.recv g this.1 this.2
/-! what the model asks -/
theorem Rel.b68 {c m : Lg} (hG : GI c) (h : Rel c m) (j : Nat) : gN m 68 0 j < 1000 := by
  have e := h.2.2.2.1.2 (j / 4) (j % 4) (by omega)
  have : 4 * (j / 4) + j % 4 = j := by omega
  rw [this] at e
  rw [← e]; have := hG.2.2.2.2.2.1.le hG.1 (j / 4) (j % 4); omega
theorem Rel.mok {c m : Lg} (hG : GI c) (h : Rel c m) {i : Nat} (hi : i < gN c 3 2 0) : mOK m i := by
  have hT := hG.1.2.1.2
  have hn := hG.1.1
  obtain ⟨e21, e23, e22, e24⟩ := h.2.2.2.2.2.2.2.1 i hi
  have hm := hG.2.2.2.2.2.2.1.1 i hi
  have hmsg := hG.msg hi
  have hq := hG.2.2.2.2.2.2.2.2.2.2
  refine ⟨?_, h.b68 hG, fun j => ?_, fun j => ?_, fun z1 z2 => ?_, fun z1 => ?_⟩
  · rw [← h.1.2.2.2.2]; omega
  · rw [← (h.2.2.1 j).2.2.2.1]; exact (hG.okc.2 j).2
  · rw [← (h.2.2.1 j).2.2.2.2.1]; exact (hG.okc.2 j).1
  · rw [← e24] at z2 ⊢
    rw [← (h.2.2.1 _).2.1] at z2
    have h17 := (hG.2.2.2.2.1 _).2.2.2.1 (show gN c 16 (gN c 24 (gN c 31 0 i) 0) 0 ≠ 2 by omega)
    have hlt := cnt_lt (q := fun z => decide (0 < gN c 17 z 0)) (by simp [h17]) hm.2.2.2.2.1
    rw [← (h.2.2.1 _).1, ← h.2.2.2.2.2.1.1 _ hmsg.2.2.2]
    have := hG.2.2.2.2.2.1.cm hG.1 hmsg.2.2.2
    omega
  · rw [← e21] at z1
    obtain ⟨g1, g2, g3⟩ := hm.2.2.2.2.2 z1
    rw [← e23, ← h.2.2.2.2.2.1.1 _ hmsg.2.1]
    obtain ⟨-, e3, e4, e5, e6, -⟩ := hG.2.2.2.2.2.1
    have h5 := e5 _ hm.2.2.2.2.1
    have hs := e3 _ hmsg.2.1
    have hle := cntN_le (fun z => decide (0 < gN c 17 z 0)) (gN c 3 1 0)
    generalize gN c 23 (gN c 31 0 i) 0 = w at *
    have q0 := e4 w 0; have q1 := e4 w 1; have q2 := e4 w 2; have q3 := e4 w 3
    have hp := hmsg.2.2.2
    generalize gN c 26 (gN c 24 (gN c 31 0 i) 0) 0 = p at *
    rcases (show p = 0 ∨ p = 1 ∨ p = 2 ∨ p = 3 by omega) with rfl | rfl | rfl | rfl <;> omega

/-! the calls that write -/
theorem mCommit_V {m : Lg} (h : MV m) {t : Nat} (ht : t < 150) (hc : gN m 70 0 (gN m 56 0 t) < 150) (hm : gN m 72 0 0 + 4 ≤ 2400) : MV (mCommit m t) := by
  unfold mCommit; split
  · exact h
  split
  · exact h
  split
  · exact mBecomes_V h ht hc hm
  · refine mAskL_V (MV.ofN (m := uN m 57 0 t 1) ?_ h) (h.site t) ht ?_ _ h.nst
    · funext a b d; rw [gN_uN, gN_uN, mLock_N]
    · rw [gN_f _ _ _ _ _ (by decide), mLock_N]; exact hm
theorem mCommit_Nb {m : Lg} (hV : MV m) (h : Nb m) {t : Nat} (ht : t < 150) (hc : gN m 70 0 (gN m 56 0 t) < 150) (hh : gN m 68 0 (4 * gN m 56 0 t + gN m 56 0 t) < 1000) (ha : gN m 62 0 t < 1000) (hm : gN m 72 0 0 + 4 ≤ 2400) : Nb (mCommit m t) := by
  unfold mCommit; split
  · exact Nb.uN h (by decide)
  split
  · exact Nb.uN h (by decide)
  split
  · exact mBecomes_Nb hV h ht hc hh hm
  · refine mAskL_Nb (Nb.uN (Nb.ofN (mLock_N _ _ _ _) h) (by decide)) (hV.site t) ht ?_ ?_ _ hV.nst
    · rw [gN_f _ _ _ _ _ (by decide), mLock_N]; exact hm
    · rw [gN_f _ _ _ _ _ (by decide), mLock_N]; exact ha
section WRp
variable {c m : Lg}
theorem SS.sites (h : SS c m) (v1 v2 : Int32) : (csites c v1 v2).1 = (msites m v1 v2).1 ∧ SS (csites c v1 v2).2 (msites m v1 v2).2 := by
  have h' := h
  obtain ⟨hG, hR, hN, hNm, hV⟩ := h
  unfold csites msites
  rw [← hR.1.2.2.1, ← hR.1.2.2.2.1]
  rcases hx : ix v1 5 with _ | a
  · exact ⟨rfl, h'⟩
  obtain ⟨ha, -⟩ := ix_some (by decide) hx
  by_cases z : a < 2
  · simp only [if_pos z]; exact ⟨by trivial, h'⟩
  simp only [if_neg z]
  rcases hy : ix v2 a with _ | b
  · exact ⟨rfl, h'⟩
  obtain ⟨hb, -⟩ := ix_some (by omega) hy
  by_cases z2 : 0 < gN c 3 0 0 ∨ 0 < gN c 3 1 0
  · simp only [if_pos z2]; exact ⟨by trivial, h'⟩
  simp only [if_neg z2]
  refine ⟨by trivial, hG.sites (by omega) (by omega) (by omega), ?_, Nb.uN (Nb.uN hN (by omega)) (by omega), Nb.uN (Nb.uN hNm (by omega)) (by omega), show MV (uN m 50 0 0 a) from MV.u50 hV (by omega)⟩
  obtain ⟨h0, h1, h2, h3, h4, h5, h6, h7, h8⟩ := hR
  have nc : ∀ {n : Nat}, (n ≠ 0 ∧ n ≠ 1) → gN (uN (uN c 0 0 0 a) 1 0 0 b) n = gN c n := fun hn => by rw [gN_f _ _ _ _ _ hn.2, gN_f _ _ _ _ _ hn.1]
  have nm : ∀ {n : Nat}, (n ≠ 50 ∧ n ≠ 51) → gN (uN (uN m 50 0 0 a) 51 0 0 b) n = gN m n := fun hn => by rw [gN_f _ _ _ _ _ hn.2, gN_f _ _ _ _ _ hn.1]
  have n3 := nc (n := 3) (by decide)
  refine ⟨?_, h1.fr (by rw [n3]) (nc (by decide)) rfl (nm (by decide)) rfl, h2.fr (fun f hf => nc (by omega)) (fun f hf => nm (by omega)), h3.fr (nc (by decide)) (nc (by decide)) (nm (by decide)) (nm (by decide)), h4.fr (fun _ _ => rfl) rfl (fun _ _ => rfl) rfl, h5.fr (fun w _ => by rw [n3]) (nc (by decide)) (nm (by decide)) (nm (by decide)), h6.fr rfl rfl, h7.fr (by rw [n3]) (fun f hf => nc (by omega)) (fun f hf => nm (by omega)), h8.fr (by rw [n3]) rfl rfl⟩
  unfold r0
  rw [n3, nm (n := 52) (by decide), nm (n := 55) (by decide), nm (n := 72) (by decide)]
  have q0 : gN (uN (uN c 0 0 0 a) 1 0 0 b) 0 0 0 = a := by rw [gN_f _ _ _ _ _ (by decide : (0 : Nat) ≠ 1), gN_uN]; simp
  have q1 : gN (uN (uN c 0 0 0 a) 1 0 0 b) 1 0 0 = b := by rw [gN_uN]; simp
  have q2 : gN (uN (uN m 50 0 0 a) 51 0 0 b) 50 0 0 = a := by rw [gN_f _ _ _ _ _ (by decide : (50 : Nat) ≠ 51), gN_uN]; simp
  have q3 : gN (uN (uN m 50 0 0 a) 51 0 0 b) 51 0 0 = b := by rw [gN_uN]; simp
  exact ⟨by rw [q0, q2], by rw [q1, q3], h0.2.2⟩
theorem SS.thing (h : SS c m) (v : Int32) (b : Bool) : (cthing c v b).1 = (mthing m v b).1 ∧ SS (cthing c v b).2 (mthing m v b).2 := by
  have h' := h
  have hn' := h.n
  obtain ⟨hG, hR, hN, hNm, hV⟩ := h
  unfold cthing mthing
  rw [← hR.1.1, ← hR.1.2.2.1]
  rcases hx : ix v (gN c 0 0 0) with _ | w
  · exact ⟨rfl, h'⟩
  obtain ⟨hw, -⟩ := ix_some hn' hx
  have hK := hG.1.2.1.1
  have hn := hG.1.1.2
  by_cases z : gN c 3 0 0 = 12
  · simp only [if_pos z, if_neg (show ¬ gN c 3 0 0 < 12 by omega)]; exact ⟨by trivial, h'⟩
  simp only [if_neg z, if_pos (show gN c 3 0 0 < 12 by omega)]
  refine ⟨by trivial, hG.thing hw (by omega), ?_, nb_th hN (by omega) (by omega), Nb.uN (Nb.uB (Nb.uN hNm (by omega))) (by omega), MV.u52 (show MV (uB (uN m 53 0 (gN c 3 0 0) w) 54 0 (gN c 3 0 0) b) from hV) (by omega)⟩
  obtain ⟨h0, h1, h2, h3, h4, h5, h6, h7, h8⟩ := hR
  have nc : ∀ {n : Nat}, (n ≠ 3 ∧ n ≠ 25) → gN (cTh c w b) n = gN c n := fun hn => by unfold cTh; rw [gN_f _ _ _ _ _ hn.1, gTh_N _ _ _ _ hn.2]
  have n3 : ∀ i, gN (cTh c w b) 3 i 0 = if i = 0 then gN c 3 0 0 + 1 else gN c 3 i 0 := by
    intro i; unfold cTh; rw [gN_uN, gTh_N _ _ _ _ (by decide)]; simp
  have n25 : ∀ i, gN (cTh c w b) 25 i 0 = if i = gN c 3 0 0 then w else gN c 25 i 0 := by
    intro i; unfold cTh; rw [gN_f _ _ _ _ _ (by decide), gTh_25]
  have b4 : ∀ i, gB (cTh c w b) 4 i 0 = if i = gN c 3 0 0 then b else gB c 4 i 0 := fun i => gTh_4 c (gN c 3 0 0) w b i
  have bo : ∀ {f : Nat}, f ≠ 4 → gB (cTh c w b) f = gB c f := fun hf => by
    funext i j
    show gB (uB (uN c 25 (gN c 3 0 0) 0 w) 4 (gN c 3 0 0) 0 b) _ i j = _
    rw [gB_uB, if_neg (fun z => hf z.1)]; rfl
  have hI : gI (cTh c w b) = gI c := rfl
  have hJ : gJ (cTh c w b) = gJ c := rfl
  generalize cTh c w b = C at *
  have nm : ∀ {n : Nat}, (n ≠ 52 ∧ n ≠ 53) → gN (uN (uB (uN m 53 0 (gN c 3 0 0) w) 54 0 (gN c 3 0 0) b) 52 0 0 (gN c 3 0 0 + 1)) n = gN m n := fun hn => by
    rw [gN_f _ _ _ _ _ hn.1]; show gN (uN m 53 0 (gN c 3 0 0) w) _ = _; rw [gN_f _ _ _ _ _ hn.2]
  have m53 : ∀ i, gN (uN (uB (uN m 53 0 (gN c 3 0 0) w) 54 0 (gN c 3 0 0) b) 52 0 0 (gN c 3 0 0 + 1)) 53 0 i = if i = gN c 3 0 0 then w else gN m 53 0 i := fun i => by
    rw [gN_f _ _ _ _ _ (by decide)]; show gN (uN m 53 0 (gN c 3 0 0) w) 53 0 i = _; rw [gN_uN]; simp
  have m52 : gN (uN (uB (uN m 53 0 (gN c 3 0 0) w) 54 0 (gN c 3 0 0) b) 52 0 0 (gN c 3 0 0 + 1)) 52 0 0 = gN c 3 0 0 + 1 := by rw [gN_uN]; simp
  have mB : ∀ f i j, gB (uN (uB (uN m 53 0 (gN c 3 0 0) w) 54 0 (gN c 3 0 0) b) 52 0 0 (gN c 3 0 0 + 1)) f i j = if f = 54 ∧ i = 0 ∧ j = gN c 3 0 0 then b else gB m f i j := fun f i j => gB_uB (uN m 53 0 (gN c 3 0 0) w) 54 0 (gN c 3 0 0) b f i j
  have mI : gI (uN (uB (uN m 53 0 (gN c 3 0 0) w) 54 0 (gN c 3 0 0) b) 52 0 0 (gN c 3 0 0 + 1)) = gI m := rfl
  have mJ : gJ (uN (uB (uN m 53 0 (gN c 3 0 0) w) 54 0 (gN c 3 0 0) b) 52 0 0 (gN c 3 0 0 + 1)) = gJ m := rfl
  generalize uN (uB (uN m 53 0 (gN c 3 0 0) w) 54 0 (gN c 3 0 0) b) 52 0 0 (gN c 3 0 0 + 1) = M at *
  have mbo : ∀ {f : Nat}, f ≠ 54 → gB M f = gB m f := fun hf => by funext i j; rw [mB, if_neg (fun z => hf z.1)]
  refine ⟨?_, ?_, h2.fr (fun f hf => nc (by omega)) (fun f hf => nm (by omega)), h3.fr (nc (by decide)) (nc (by decide)) (nm (by decide)) (nm (by decide)), h4.fr (fun f hf => bo (by omega)) hJ (fun f hf => mbo (by omega)) mJ, h5.fr (fun w _ => by rw [n3, if_neg (by omega)]) (nc (by decide)) (nm (by decide)) (nm (by decide)), h6.fr hI mI, h7.fr (by rw [n3, if_neg (by decide)]) (fun f hf => nc (by omega)) (fun f hf => nm (by omega)), ?_⟩
  · unfold r0
    rw [n3, n3, n3, if_pos rfl, if_neg (by decide), if_neg (by decide), nc (n := 0) (by decide), nc (n := 1) (by decide), nm (n := 50) (by decide), nm (n := 51) (by decide), nm (n := 55) (by decide), nm (n := 72) (by decide), m52]
    exact ⟨h0.1, h0.2.1, rfl, h0.2.2.2⟩
  · intro k hk
    rw [n3, if_pos rfl] at hk
    rw [n25, m53, b4, mB]
    by_cases y : k = gN c 3 0 0
    · rw [if_pos y, if_pos y, if_pos y, if_pos ⟨rfl, rfl, y⟩]; exact ⟨rfl, rfl⟩
    · rw [if_neg y, if_neg y, if_neg y, if_neg (fun q => y q.2.2)]; exact h1 k (by omega)
  · refine ⟨fun t => ?_, fun t k hk hk2 => ?_⟩
    · rw [bo (by decide), n3, if_pos rfl, mbo (by decide), anyN_s, h8.2 t _ (Nat.le_refl _) (by omega), Bool.or_false]; exact h8.1 t
    · rw [n3, if_pos rfl] at hk; rw [mbo (by decide)]; exact h8.2 t k (by omega) hk2
theorem mBegL_c (m : Lg) (w j : Nat) : ∀ n, gN (mBegL m w n) 58 0 j = if 4 * gN m 55 0 0 ≤ j ∧ j < 4 * gN m 55 0 0 + n then gN m 68 0 (4 * w + (j - 4 * gN m 55 0 0)) else gN m 58 0 j
  | 0 => by rw [if_neg (by omega)]; rfl
  | n + 1 => by
    have ih := mBegL_c m w j n
    have s : mBegL m w (n + 1) = uN (mBegL m w n) 58 0 (4 * gN (mBegL m w n) 55 0 0 + n) (gN (mBegL m w n) 68 0 (4 * w + n)) := rfl
    rw [s, gN_uN, mBegL_f m w (by decide : (55 : Nat) ≠ 58), mBegL_f m w (by decide : (68 : Nat) ≠ 58), ih]
    by_cases z : j = 4 * gN m 55 0 0 + n
    · rw [if_pos ⟨rfl, rfl, z⟩, if_pos (by omega), show j - 4 * gN m 55 0 0 = n by omega]
    · rw [if_neg (fun y => z y.2.2)]
      by_cases y : 4 * gN m 55 0 0 ≤ j ∧ j < 4 * gN m 55 0 0 + n
      · rw [if_pos y, if_pos (by omega)]
      · rw [if_neg y, if_neg (by omega)]
theorem mBegL_B (m : Lg) (w : Nat) : ∀ n, gB (mBegL m w n) = gB m ∧ gI (mBegL m w n) = gI m ∧ gJ (mBegL m w n) = gJ m
  | 0 => ⟨rfl, rfl, rfl⟩
  | n + 1 => mBegL_B m w n
theorem SS.begin (h : SS c m) (v : Int32) : (cbegin c v).1 = (mbegin m v).1 ∧ SS (cbegin c v).2 (mbegin m v).2 := by
  have h' := h
  have hn' := h.n
  obtain ⟨hG, hR, hN, hNm, hV⟩ := h
  unfold cbegin mbegin
  rw [← hR.1.1, ← hR.1.2.2.2.1]
  rcases hx : ix v (gN c 0 0 0) with _ | w
  · exact ⟨rfl, h'⟩
  obtain ⟨hw, -⟩ := ix_some hn' hx
  have hT := hG.1.2.1.2
  have hn := hG.1.1.2
  by_cases z : gN c 3 1 0 = 150
  · simp only [if_pos z, if_neg (show ¬ gN c 3 1 0 < 150 by omega)]; exact ⟨by trivial, h'⟩
  simp only [if_neg z, if_pos (show gN c 3 1 0 < 150 by omega)]
  refine ⟨by trivial, hG.begin hw (by omega), ?_, nb_beg hN (by omega) (by omega), Nb.uN (mBegL_Nb (Nb.uN hNm (by omega)) _ _) (by omega), MV.u55 (mBegL_V (MV.u56 hV (by omega)) _ _) (by omega)⟩
  obtain ⟨h0, h1, h2, h3, h4, h5, h6, h7, h8⟩ := hR
  have nc : ∀ {n : Nat}, (n ≠ 3 ∧ n ≠ 9 ∧ n ≠ 26) → gN (cBeg c w) n = gN c n := fun hn => by unfold cBeg; rw [gN_f _ _ _ _ _ hn.1, cTx_N _ _ _ hn.2]
  have n3 : ∀ i, gN (cBeg c w) 3 i 0 = if i = 1 then gN c 3 1 0 + 1 else gN c 3 i 0 := by
    intro i; unfold cBeg; rw [gN_uN, cTx_N _ _ _ (by decide)]; simp
  have n9 : ∀ i j, gN (cBeg c w) 9 i j = if i = gN c 3 1 0 then gN c 6 w j else gN c 9 i j := by
    intro i j; unfold cBeg; rw [gN_f _ _ _ _ _ (by decide), cTx_9]
  have n26 : ∀ i, gN (cBeg c w) 26 i 0 = if i = gN c 3 1 0 then w else gN c 26 i 0 := by
    intro i; unfold cBeg; rw [gN_f _ _ _ _ _ (by decide), cTx_26]; simp
  have hB : gB (cBeg c w) = gB c := rfl
  have hI : gI (cBeg c w) = gI c := rfl
  have hJ : gJ (cBeg c w) = gJ c := rfl
  generalize cBeg c w = C at *
  have nm : ∀ {n : Nat}, (n ≠ 55 ∧ n ≠ 56 ∧ n ≠ 58) → gN (uN (mBegL (uN m 56 0 (gN c 3 1 0) w) w 4) 55 0 0 (gN c 3 1 0 + 1)) n = gN m n := fun hn => by rw [gN_f _ _ _ _ _ hn.1, mBegL_f _ _ hn.2.2, gN_f _ _ _ _ _ hn.2.1]
  have m56 : ∀ i, gN (uN (mBegL (uN m 56 0 (gN c 3 1 0) w) w 4) 55 0 0 (gN c 3 1 0 + 1)) 56 0 i = if i = gN c 3 1 0 then w else gN m 56 0 i := fun i => by rw [gN_f _ _ _ _ _ (by decide), mBegL_f _ _ (by decide), gN_uN]; simp
  have m58 : ∀ j, gN (uN (mBegL (uN m 56 0 (gN c 3 1 0) w) w 4) 55 0 0 (gN c 3 1 0 + 1)) 58 0 j = if 4 * gN c 3 1 0 ≤ j ∧ j < 4 * gN c 3 1 0 + 4 then gN m 68 0 (4 * w + (j - 4 * gN c 3 1 0)) else gN m 58 0 j := fun j => by
    rw [gN_f _ _ _ _ _ (by decide), mBegL_c, gN_f _ _ _ _ _ (by decide : (55 : Nat) ≠ 56), gN_f _ _ _ _ _ (by decide : (68 : Nat) ≠ 56), gN_f _ _ _ _ _ (by decide : (58 : Nat) ≠ 56), ← h0.2.2.2.1]
  have m55 : gN (uN (mBegL (uN m 56 0 (gN c 3 1 0) w) w 4) 55 0 0 (gN c 3 1 0 + 1)) 55 0 0 = gN c 3 1 0 + 1 := by rw [gN_uN]; simp
  obtain ⟨mB', mI', mJ'⟩ := mBegL_B (uN m 56 0 (gN c 3 1 0) w) w 4
  have mB : gB (uN (mBegL (uN m 56 0 (gN c 3 1 0) w) w 4) 55 0 0 (gN c 3 1 0 + 1)) = gB m := mB'
  have mI : gI (uN (mBegL (uN m 56 0 (gN c 3 1 0) w) w 4) 55 0 0 (gN c 3 1 0 + 1)) = gI m := mI'
  have mJ : gJ (uN (mBegL (uN m 56 0 (gN c 3 1 0) w) w 4) 55 0 0 (gN c 3 1 0 + 1)) = gJ m := mJ'
  clear mB' mI' mJ'
  generalize uN (mBegL (uN m 56 0 (gN c 3 1 0) w) w 4) 55 0 0 (gN c 3 1 0 + 1) = M at *
  refine ⟨?_, h1.fr (by rw [n3, if_neg (by decide)]) (nc (by decide)) (by rw [hB]) (nm (by decide)) (by rw [mB]), fun t => ?_, ⟨fun t o ho => ?_, ?_⟩, h4.fr (fun _ _ => by rw [hB]) hJ (fun _ _ => by rw [mB]) mJ, h5.fr (fun w _ => by rw [n3, if_neg (by omega)]) (nc (by decide)) (nm (by decide)) (nm (by decide)), h6.fr hI mI, h7.fr (by rw [n3, if_neg (by decide)]) (fun f hf => nc (by omega)) (fun f hf => nm (by omega)), h8.fr (by rw [n3, if_neg (by decide)]) (by rw [hB]) (by rw [mB])⟩
  · unfold r0
    rw [n3, n3, n3, if_neg (by decide), if_pos rfl, if_neg (by decide), nc (n := 0) (by decide), nc (n := 1) (by decide), nm (n := 50) (by decide), nm (n := 51) (by decide), nm (n := 52) (by decide), nm (n := 72) (by decide), m55]
    exact ⟨h0.1, h0.2.1, h0.2.2.1, rfl, h0.2.2.2.2⟩
  · rw [n26, m56, nc (n := 16) (by decide), nc (n := 17) (by decide), nc (n := 18) (by decide), nc (n := 19) (by decide), nc (n := 20) (by decide), nm (n := 57) (by decide), nm (n := 59) (by decide), nm (n := 60) (by decide), nm (n := 61) (by decide), nm (n := 62) (by decide)]
    have := h2 t
    refine ⟨?_, this.2⟩
    rw [this.1]
  · rw [n9, m58]
    by_cases y : t = gN c 3 1 0
    · rw [if_pos y, if_pos (by omega), h3.2 w o ho]; congr 1; omega
    · rw [if_neg y, if_neg (by omega)]; exact h3.1 t o ho
  · rw [nc (n := 6) (by decide), nm (n := 68) (by decide)]; exact h3.2
theorem SS.abort (h : SS c m) (v : Int32) : (cabort c v).1 = (mabort m v).1 ∧ SS (cabort c v).2 (mabort m v).2 := by
  have h' := h
  have hT := h.T
  obtain ⟨hG, hR, hN, hNm, hV⟩ := h
  unfold cabort mabort
  rw [← hR.1.2.2.2.1]
  rcases hx : ix v (gN c 3 1 0) with _ | t
  · exact ⟨rfl, h'⟩
  obtain ⟨ht, -⟩ := ix_some hT hx
  simp only [← (hR.2.2.1 t).2.1]
  by_cases z : gN c 16 t 0 = 0
  · simp only [if_pos z]
    exact ⟨by trivial, hG.abort ht z, Rel.num hR 16 (by decide) (mn := 57) (by decide) t 3, Nb.uN hN (by decide), Nb.uN hNm (by decide), hV⟩
  · simp only [if_neg z]; exact ⟨by trivial, h'⟩
theorem Rel.put (hG : GI c) (hR : Rel c m) {t k : Nat} {x : Int64} (hk : k < 12) : Rel (cPut c t k x) (mWr m t k x) := by
  obtain ⟨h0, h1, h2, h3, h4, h5, h6, h7, h8⟩ := hR
  have nc : ∀ {n : Nat}, n ≠ 15 → gN (cPut c t k x) n = gN c n := fun hn => cP1_f _ _ _ hn
  have n3 := nc (n := 3) (by decide)
  have hB : ∀ f i j, gB (cPut c t k x) f i j = if f = 10 ∧ i = t ∧ j = k then true else gB c f i j := by
    intro f i j
    show gB (cP1 c t k) f i j = _
    unfold cP1; split
    · rename_i z; split
      · rename_i y; obtain ⟨rfl, rfl, rfl⟩ := y; exact z
      · rfl
    · exact gB_uB c 10 t k true f i j
  have hJ : ∀ f i j, gJ (cPut c t k x) f i j = if f = 11 ∧ i = t ∧ j = k then x else gJ c f i j := by
    intro f i j
    unfold cPut; rw [gJ_uJ]
    have : gJ (cP1 c t k) = gJ c := by unfold cP1; split <;> rfl
    rw [this]
  have hI : gI (cPut c t k x) = gI c := by show gI (cP1 c t k) = _; unfold cP1; split <;> rfl
  have mB : ∀ f i j, gB (mWr m t k x) f i j = if f = 64 ∧ i = 0 ∧ j = 12 * t + k then true else gB m f i j := fun f i j => gB_uB m 64 0 (12 * t + k) true f i j
  have mJ : ∀ f i j, gJ (mWr m t k x) f i j = if f = 65 ∧ i = 0 ∧ j = 12 * t + k then x else gJ m f i j := fun f i j => gJ_uJ (uB m 64 0 (12 * t + k) true) 65 0 (12 * t + k) x f i j
  have mN : gN (mWr m t k x) = gN m := rfl
  have mI : gI (mWr m t k x) = gI m := rfl
  generalize cPut c t k x = C at *
  generalize mWr m t k x = M at *
  refine ⟨h0.fr (nc (by decide)) (nc (by decide)) (fun i _ => by rw [n3]) (fun f _ => by rw [mN]), h1.fr (by rw [n3]) (nc (by decide)) (by funext i j; rw [hB, if_neg (by omega)]) (by rw [mN]) (by funext i j; rw [mB, if_neg (by omega)]), h2.fr (fun f hf => nc (by omega)) (fun f _ => by rw [mN]), h3.fr (nc (by decide)) (nc (by decide)) (by rw [mN]) (by rw [mN]), ⟨fun t' k' hk' => ?_, fun t' x' hx' => ?_, fun t' w hw => ?_⟩, h5.fr (fun w _ => by rw [n3]) (nc (by decide)) (by rw [mN]) (by rw [mN]), h6.fr hI mI, h7.fr (by rw [n3]) (fun f hf => nc (by omega)) (fun f _ => by rw [mN]), h8.fr (by rw [n3]) (by funext i j; rw [hB, if_neg (by omega)]) (by funext i j; rw [mB, if_neg (by omega)])⟩
  · rw [hB, hJ, mB, mJ]
    by_cases z : t' = t ∧ k' = k
    · rw [if_pos ⟨rfl, z⟩, if_pos ⟨rfl, rfl, by omega⟩, if_pos ⟨rfl, z⟩, if_pos ⟨rfl, rfl, by omega⟩]; exact ⟨rfl, rfl⟩
    · rw [if_neg (fun y => z y.2), if_neg (by omega), if_neg (fun y => z y.2), if_neg (by omega)]; exact h4.1 t' k' hk'
  · rw [hJ, mJ, if_neg (by omega), if_neg (by omega)]; exact h4.2.1 t' x' hx'
  · rw [hB, mB, if_neg (by omega), if_neg (by omega)]; exact h4.2.2 t' w hw
theorem SS.write (h : SS c m) (v1 v2 : Int32) (x : Int64) : (cwrite c v1 v2 x).1 = (mwrite m v1 v2 x).1 ∧ SS (cwrite c v1 v2 x).2 (mwrite m v1 v2 x).2 := by
  have h' := h
  have hT := h.T; have hK := h.K
  obtain ⟨hG, hR, hN, hNm, hV⟩ := h
  unfold cwrite mwrite
  rw [← hR.1.2.2.2.1, ← hR.1.2.2.1]
  rcases hx : ix v1 (gN c 3 1 0) with _ | t
  · exact ⟨rfl, h'⟩
  rcases hy : ix v2 (gN c 3 0 0) with _ | k
  · exact ⟨rfl, h'⟩
  obtain ⟨ht, -⟩ := ix_some hT hx
  obtain ⟨hk, -⟩ := ix_some hK hy
  have hk12 := hG.1.2.1.1
  simp only [← (hR.2.2.1 t).2.1, ← (hR.2.1 k hk).2]
  by_cases zb : gB c 4 k 0 = true
  · simp only [if_pos zb]; exact ⟨by trivial, h'⟩
  simp only [if_neg zb]
  by_cases z : gN c 16 t 0 = 0
  · simp only [if_pos z]
    have g := hG.put (x := x) ht hk z
    have r := hR.put hG (t := t) (x := x) (show k < 12 by omega)
    have hnb : Nb (cPut c t k x) := by
      intro f i j
      show gN (cP1 c t k) f i j < _
      unfold cP1; split
      · exact hN f i j
      · have h15 := hG.2.2.1.2 t
        have := cntN_le (gB c 10 t) (gN c 3 0 0)
        exact Nb.uN (Nb.uB hN) (by omega) f i j
    have s : SS (cPut c t k x) (mWr m t k x) := ⟨g, r, hnb, hNm, hV⟩
    exact ⟨by rw [s.plain], s⟩
  · simp only [if_neg z]; exact ⟨by trivial, h'⟩
theorem SS.add (h : SS c m) (v1 v2 v3 x : Int32) : (cadd c v1 v2 v3 x).1 = (madd m v1 v2 v3 x).1 ∧ SS (cadd c v1 v2 v3 x).2 (madd m v1 v2 v3 x).2 := by
  have h' := h
  have hT := h.T; have hK := h.K
  obtain ⟨hG, hR, hN, hNm, hV⟩ := h
  unfold cadd madd
  rw [← hR.1.2.2.2.1, ← hR.1.2.2.1]
  rcases hx : ix v1 (gN c 3 1 0) with _ | t
  · exact ⟨rfl, h'⟩
  rcases hy : ix v2 (gN c 3 0 0) with _ | k
  · exact ⟨rfl, h'⟩
  obtain ⟨ht, -⟩ := ix_some hT hx
  obtain ⟨hk, -⟩ := ix_some hK hy
  have hk12 := hG.1.2.1.1
  simp only [← (hR.2.2.1 t).2.1, ← (hR.2.1 k hk).2]
  by_cases zb : gB c 4 k 0 = true
  · simp only [if_pos zb]
    rcases hz : ix v3 8 with _ | e
    · exact ⟨by trivial, h'⟩
    obtain ⟨he, -⟩ := ix_some (by decide) hz
    by_cases z : gN c 16 t 0 = 0
    · simp only [if_pos z]
      refine ⟨by trivial, hG.addTo ht, ?_, hN, hNm, hV⟩
      obtain ⟨h0, h1, h2, h3, h4, h5, h6, h7, h8⟩ := hR
      have cB : ∀ f i j, gB (cAddTo c t (k * 8 + e) x) f i j = if f = 14 ∧ i = t ∧ j = 0 then true else gB c f i j := fun f i j => gB_uB (uJ c 12 t (k * 8 + e) (gJ c 12 t (k * 8 + e) + x.toInt64)) 14 t 0 true f i j
      have cJ : ∀ f i j, gJ (cAddTo c t (k * 8 + e) x) f i j = if f = 12 ∧ i = t ∧ j = k * 8 + e then gJ c 12 t (k * 8 + e) + x.toInt64 else gJ c f i j := fun f i j => gJ_uJ c 12 t (k * 8 + e) _ f i j
      have mB : ∀ f i j, gB (mAd m t k e x) f i j = if f = 66 ∧ i = 0 ∧ j = 12 * t + k then true else gB m f i j := fun f i j => gB_uB m 66 0 (12 * t + k) true f i j
      have mJ : ∀ f i j, gJ (mAd m t k e x) f i j = if f = 67 ∧ i = 0 ∧ j = 96 * t + 8 * k + e then gJ m 67 0 (96 * t + 8 * k + e) + x.toInt64 else gJ m f i j := fun f i j => gJ_uJ (uB m 66 0 (12 * t + k) true) 67 0 (96 * t + 8 * k + e) _ f i j
      refine ⟨h0, h1.fr (c := c) rfl rfl (by funext i j; rw [cB, if_neg (by omega)]) rfl (by funext i j; rw [mB, if_neg (by omega)]), h2, h3, ⟨fun t' k' hk' => ?_, fun t' x' hx' => ?_, fun t' w hw => ?_⟩, h5, h6, h7, ⟨fun t' => ?_, fun t' k' hk1 hk2 => ?_⟩⟩
      · rw [cB, cJ, mB, mJ, if_neg (by omega), if_neg (by omega), if_neg (by omega), if_neg (by omega)]; exact h4.1 t' k' hk'
      · rw [cJ, mJ]
        have e4 := h4.2.1 t (k * 8 + e) (by omega)
        by_cases y : t' = t ∧ x' = k * 8 + e
        · rw [if_pos ⟨rfl, y⟩, if_pos ⟨rfl, rfl, by omega⟩, e4, show 96 * t + 8 * k + e = 96 * t + (k * 8 + e) by omega]
        · rw [if_neg (fun q => y q.2), if_neg (by omega)]; exact h4.2.1 t' x' hx'
      · rw [cB, mB, if_neg (by omega), if_neg (by omega)]; exact h4.2.2 t' w hw
      · rw [cB]
        show _ = anyN (fun k' => gB (mAd m t k e x) 66 0 (12 * t' + k')) (gN c 3 0 0)
        by_cases y : t' = t
        · rw [if_pos ⟨rfl, y, rfl⟩]
          exact (anyN_iff.mpr ⟨k, hk, by rw [mB, if_pos ⟨rfl, rfl, by omega⟩]⟩).symm
        · rw [if_neg (fun q => y q.2.1), h8.1 t']
          exact anyN_congr (fun i hi => by rw [mB, if_neg (by omega)])
      · have hk1 : gN c 3 0 0 ≤ k' := hk1
        rw [mB, if_neg (by omega)]; exact h8.2 t' k' hk1 hk2
    · simp only [if_neg z]; exact ⟨by trivial, h'⟩
  · simp only [if_neg zb]; exact ⟨by trivial, h'⟩
theorem SS.cm70 (h : SS c m) {t : Nat} (ht : t < gN c 3 1 0) (h17 : gN c 17 t 0 = 0) : gN m 70 0 (gN m 56 0 t) < 150 := by
  obtain ⟨hG, hR, -⟩ := h
  have hn := hG.1.1.2
  have hp := hG.1.2.2.2 t ht
  have hT := hG.1.2.1.2
  rw [← (hR.2.2.1 t).1, ← hR.2.2.2.2.2.1.1 _ (show gN c 26 t 0 < 4 by omega)]
  have hlt := cnt_lt (q := fun z => decide (0 < gN c 17 z 0)) (by simp [h17]) ht
  have := hG.2.2.2.2.2.1.cm hG.1 (show gN c 26 t 0 < 4 by omega)
  omega
theorem SS.q72 (h : SS c m) : gN m 72 0 0 + 4 ≤ 2400 := by
  obtain ⟨hG, hR, -⟩ := h
  have hT := hG.1.2.1.2
  have := hG.2.2.2.2.2.2.2.2.2.2
  rw [← hR.1.2.2.2.2]; omega
theorem SS.b62 (h : SS c m) (j : Nat) : gN m 62 0 j < 1000 := by
  rw [← (h.2.1.2.2.1 j).2.2.2.2.2]; have := (h.1.2.2.2.2.1 j).2.2.2.2; omega
theorem SS.commit (h : SS c m) (v : Int32) : (ccommit c v).1 = (mcommit m v).1 ∧ SS (ccommit c v).2 (mcommit m v).2 := by
  have h' := h
  have hT := h.T
  have h72 := h.q72; have h62 := h.b62; have h70 := fun {t : Nat} => h.cm70 (t := t)
  obtain ⟨hG, hR, hN, hNm, hV⟩ := h
  unfold ccommit mcommit
  rw [← hR.1.2.2.2.1]
  rcases hx : ix v (gN c 3 1 0) with _ | t
  · exact ⟨rfl, h'⟩
  obtain ⟨ht, -⟩ := ix_some hT hx
  simp only [← (hR.2.2.1 t).2.1]
  by_cases z : gN c 16 t 0 = 0
  · simp only [if_pos z]
    have h17 : gN c 17 t 0 = 0 := (hG.2.2.2.2.1 t).2.2.2.1 (by omega)
    have hT2 := hG.1.2.1.2
    have hn := hG.1.1.2
    have hp := hG.1.2.2.2 t ht
    have r := hR.commit hG ht z
    have s : SS (cCm c t) (mCommit m t) := ⟨hG.commit ht z, r, nb_cm hN hG.okm (by omega) (by omega) hn, mCommit_Nb hV hNm (by omega) (h70 ht h17) (hR.b68 hG _) (h62 t) h72, mCommit_V hV (by omega) (h70 ht h17) h72⟩
    exact ⟨by rw [(r.2.2.1 t).2.1], s⟩
  · simp only [if_neg z]; exact ⟨by trivial, h'⟩
theorem SS.recv (h : SS c m) {i : Nat} (hi : i < gN c 3 2 0) (hcan : cCanCome c (gN c 31 0 i) = true) : SS (cDl c i) (mComesNow m i) := by
  obtain ⟨hG, hR, hN, hNm, hV⟩ := h
  have ok := hR.mok hG hi
  exact ⟨hG.recv hi hcan, hR.recv hG hi hcan, hG.nbD hN hi, mComesNow_Nb hV hNm ok, mComesNow_V hV ok⟩
theorem cRecv_21 {c : Lg} (hG : GI c) {i : Nat} (hi : i < gN c 3 2 0) : gN (cDl c i) 21 (gN c 31 0 i) 0 = gN c 21 (gN c 31 0 i) 0 := by
  have hlt := (hG.2.2.2.2.2.2.1.1 i hi).1
  have e21 : gN (cRem c i) 21 = gN c 21 := cRem_N _ _ (by decide)
  have e32 : gN (cRem c i) 32 = gN c 32 := cRem_N _ _ (by decide)
  generalize hqq : gN c 31 0 i = q at *
  have post : ∀ (C : Lg) (x f w o : Nat), q < gN C 32 0 0 → gN (cPost C x f w o) 21 q 0 = gN C 21 q 0 ∧ q < gN (cPost C x f w o) 32 0 0 := fun C x f w o hq => ⟨by rw [cPost_21, if_neg (by omega)], by rw [cPost_32]; omega⟩
  have toO : ∀ (C : Lg) (t x : Nat), q < gN C 32 0 0 → ∀ k, gN (cToO C t x k) 21 q 0 = gN C 21 q 0 ∧ q < gN (cToO C t x k) 32 0 0 := by
    intro C t x hq k
    induction k with
    | zero => exact ⟨rfl, hq⟩
    | succ k ih =>
      rw [cToO_s]; split
      · exact ih
      · have := post (cToO C t x k) x (gN (cToO C t x k) 26 t 0) k t ih.2
        exact ⟨this.1.trans ih.1, this.2⟩
  have toH : ∀ (C : Lg) (t x : Nat), q < gN C 32 0 0 → ∀ k, gN (cToH C t x k) 21 q 0 = gN C 21 q 0 ∧ q < gN (cToH C t x k) 32 0 0 := by
    intro C t x hq k
    induction k with
    | zero => exact ⟨rfl, hq⟩
    | succ k ih =>
      rw [cToH_s]; split
      · have := post (cToH C t x k) x (gN (cToH C t x k) 26 t 0) k t ih.2
        exact ⟨this.1.trans ih.1, this.2⟩
      · exact ih
  have mk : ∀ (C : Lg) (t : Nat), q < gN C 32 0 0 → gN (cMk C t) 21 q 0 = gN C 21 q 0 := by
    intro C t hq
    unfold cMk; split
    · rw [(toO (cM3 C t) t 4 (by rw [cM3_N _ _ (by decide)]; exact hq) _).1, cM3_N _ _ (by decide)]
    · rw [cM1_N _ _ (by decide)]
  have hq : q < gN (cRem c i) 32 0 0 := by rw [e32]; exact hlt
  have h0 : gN (cRem c i) 21 q 0 = gN c 21 q 0 := by rw [e21]
  unfold cDl
  rw [← h0, hqq]
  generalize cRem c i = C at *
  unfold cRecv
  split
  · unfold cAsk; split
    · rfl
    · split
      · rw [(post _ _ _ _ _ (by rw [cLock_N]; exact hq)).1, cLock_N]
      · exact (post _ _ _ _ _ hq).1
  split
  · unfold cYes; split
    · split
      · rw [mk _ _ (by rw [gN_f _ _ _ _ _ (by decide)]; exact hq), gN_f _ _ _ _ _ (by decide)]
      · rw [gN_f _ _ _ _ _ (by decide)]
    · rw [gN_f _ _ _ _ _ (by decide)]
  split
  · unfold cNo; split
    · rw [(toH _ _ _ (by rw [cNU_N _ _ (by decide)]; exact hq) _).1, cNU_N _ _ (by decide)]
    · rfl
  split
  · rw [cDrop_N]
  split
  · unfold cSend; rw [(post _ _ _ _ _ (by unfold cSd1; rw [cTake_N _ _ _ (by decide)]; exact hq)).1]; unfold cSd1; rw [cTake_N _ _ _ (by decide)]
  · unfold cAck; rw [gN_f _ _ _ _ _ (by decide)]
theorem SS.deliver (h : SS c m) (v : Int32) : (cdeliver c v).1 = (mdeliver m v).1 ∧ SS (cdeliver c v).2 (mdeliver m v).2 := by
  have h' := h
  have hQ := h.Q
  obtain ⟨hG, hR, hN, hNm, hV⟩ := h
  unfold cdeliver mdeliver
  rw [← hR.1.2.2.2.2]
  rcases hx : ix v (gN c 3 2 0) with _ | i
  · exact ⟨rfl, h'⟩
  obtain ⟨hi, -⟩ := ix_some hQ hx
  simp only [← hR.can hG hi]
  by_cases z : cCanCome c (gN c 31 0 i) = true
  · simp only [if_pos z]
    exact ⟨by rw [cRecv_21 hG hi, (hR.2.2.2.2.2.2.2.1 i hi).1], h'.recv hi z⟩
  · simp only [if_neg z]; exact ⟨by trivial, h'⟩
theorem SS.allS (h : SS c m) : ∀ d, SS (cAll c d) (mAllF m d)
  | 0 => h
  | d + 1 => by
    have ih := SS.allS h d
    have ef := ih.2.1.first ih.1
    rw [cAll_s, mAllF_s, ← ef]
    rcases hf : cFirst (cAll c d) with _ | k
    · rw [cAllS_none hf]; exact ih
    · rw [cAllS_some hf]
      have := firstN_is hf
      exact ih.recv this.1 this.2
theorem SS.all (h : SS c m) (v : Int32) : (call c v).1 = (mall m v).1 ∧ SS (call c v).2 (mall m v).2 := by
  unfold call mall
  rcases hx : ix v 501 with _ | n
  · exact ⟨rfl, h⟩
  · exact ⟨by show nI (cAllK c n) = nI (mAllC m n); rw [(Rel.all h.1 h.2.1 n).2], h.allS n⟩
/-- what the model's all asks: some store of the class stands beside it -/
def Pm (g : Lg) : Prop := ∃ c, SS c g
theorem Pm.step (g : Lg) (i : Nat) (h : Pm g) (_ : MV g) (_ : Nb g) (hi : i < gN g 72 0 0) (hc : mCanCome g i = true) : mOK g i ∧ Pm (mComesNow g i) := by
  obtain ⟨c, h⟩ := h
  have hi : i < gN c 3 2 0 := by rw [h.2.1.1.2.2.2.2]; exact hi
  exact ⟨h.2.1.mok h.1 hi, cDl c i, h.recv hi (by rw [h.2.1.can h.1 hi]; exact hc)⟩
theorem SS.init : SS cInit mInit := by
  have hB : ∀ f i j, gB cInit f i j = false := fun f i j => by unfold cInit; rw [cFill_B, cFill_B, cFill_B, cFill_B]; rfl
  have hJ : ∀ f i j, gJ cInit f i j = 0 := fun f i j => by unfold cInit; rw [cFill_J, cFill_J, cFill_J, cFill_J]; rfl
  have hI : ∀ w k, w < 4 → k < 12 → gI cInit 7 w k = -4 := by
    intro w k hw hk
    unfold cInit; rw [cFill_I, cFill_I, cFill_I, cFill_I]
    rcases (show w = 0 ∨ w = 1 ∨ w = 2 ∨ w = 3 by omega) with rfl | rfl | rfl | rfl <;> simp [hk]
  have z : ∀ n i j, n ≠ 0 → n ≠ 1 → gN cInit n i j = 0 := by
    intro n i j h0 h1; rw [cInit_N]; unfold c00; rw [gN_f _ _ _ _ _ h1, gN_f _ _ _ _ _ h0]; rfl
  have c0 : gN cInit 0 0 0 = 3 := by rw [cInit_N]; rfl
  have c1 : gN cInit 1 0 0 = 1 := by rw [cInit_N]; rfl
  have mN : gN mInit = gN m01 := mFill_N _ _
  have zm : ∀ n j, n ≠ 50 → n ≠ 51 → gN mInit n 0 j = 0 := by
    intro n j h0 h1; rw [mN]; unfold m01; rw [gN_f _ _ _ _ _ h1, gN_f _ _ _ _ _ h0]; rfl
  have m0 : gN mInit 50 0 0 = 3 := by rw [mN]; rfl
  have m1 : gN mInit 51 0 0 = 1 := by rw [mN]; rfl
  have mB : ∀ f i j, gB mInit f i j = false := fun f i j => by unfold mInit; rw [mFill_B]; rfl
  have mJ : ∀ f i j, gJ mInit f i j = 0 := fun f i j => by unfold mInit; rw [mFill_J]; rfl
  have mI : ∀ j, j < 48 → gI mInit 71 0 j = -4 := fun j hj => by unfold mInit; rw [mFill_I, if_pos hj]
  refine ⟨GI.init, ?_, cInit_Nb, Nb.ofN mN m01_Nb, MV.ofN mN m01_V⟩
  generalize cInit = c at *
  generalize mInit = m at *
  have k0 : ∀ n i j, 2 ≤ n → gN c n i j = 0 := fun n i j hn => z n i j (by omega) (by omega)
  have k1 : ∀ n j, 52 ≤ n → gN m n 0 j = 0 := fun n j hn => zm n j (by omega) (by omega)
  refine ⟨⟨by rw [c0, m0], by rw [c1, m1], by rw [k0 _ _ _ (by decide), k1 _ _ (by decide)], by rw [k0 _ _ _ (by decide), k1 _ _ (by decide)], by rw [k0 _ _ _ (by decide), k1 _ _ (by decide)]⟩, fun k hk => by rw [k0 _ _ _ (by decide)] at hk; omega, fun t => ?_, ⟨fun t o _ => by rw [k0 _ _ _ (by decide), k1 _ _ (by decide)], fun t o _ => by rw [k0 _ _ _ (by decide), k1 _ _ (by decide)]⟩, ⟨fun t k _ => ⟨by rw [hB, mB], by rw [hJ, mJ]⟩, fun t k _ => by rw [hJ, mJ], fun t k _ => by rw [hB, mB]⟩, ⟨fun w _ => by rw [k0 _ _ _ (by decide), k1 _ _ (by decide)], fun w i _ hi => by rw [k0 _ _ _ (by decide)] at hi; omega⟩, fun w k hw hk => by rw [hI w k hw hk, mI _ (by omega)], fun i hi => by rw [k0 _ _ _ (by decide)] at hi; omega, ⟨fun t => ?_, fun t k _ _ => mB _ _ _⟩⟩
  · rw [k0 _ _ _ (by decide), k0 _ _ _ (by decide), k0 _ _ _ (by decide), k0 _ _ _ (by decide), k0 _ _ _ (by decide), k0 _ _ _ (by decide), k1 _ _ (by decide), k1 _ _ (by decide), k1 _ _ (by decide), k1 _ _ (by decide), k1 _ _ (by decide), k1 _ _ (by decide)]; exact ⟨rfl, rfl, rfl, rfl, rfl, rfl⟩
  · rw [hB, k0 _ _ _ (by decide)]; rfl
end WRp

/-! committing and receiving, as functions of the class's store -/
def Okm (c : Lg) : Prop := Rb c 4 ∧ (∀ w, w < 4 → gN c 3 (3 + w) 0 ≤ 150) ∧ (∀ w j, gN c 6 w j < 1000)
def Okc (c : Lg) : Prop := Okm c ∧ (∀ t, gN c 19 t 0 < 1000 ∧ gN c 20 t 0 < 1000)
theorem Okm.N {c c' : Lg} (h : Okm c) (h3 : gN c' 3 = gN c 3) (h32 : gN c' 32 = gN c 32) (h6 : gN c' 6 = gN c 6) : Okm c' := by unfold Okm Rb at *; rw [h3, h32, h6]; exact h
def cM1 (c : Lg) (t : Nat) : Lg := uN c 16 t 0 2
def cM2 (c : Lg) (t : Nat) : Lg := uN (cM1 c t) 17 t 0 (gN c 6 (gN c 26 t 0) (gN c 26 t 0) + 1)
def cM3 (c : Lg) (t : Nat) : Lg := cTake (cM2 c t) (gN c 26 t 0) t
def cMk (c : Lg) (t : Nat) : Lg := if cAny (cM1 c t) t = true then cToO (cM3 c t) t 4 (gN (cM3 c t) 0 0 0) else cM1 c t
theorem cM1_N (c : Lg) (t : Nat) {n : Nat} (h : n ≠ 16) : gN (cM1 c t) n = gN c n := gN_f _ _ _ _ _ h
theorem cM2_N (c : Lg) (t : Nat) {n : Nat} (h : n ≠ 16 ∧ n ≠ 17) : gN (cM2 c t) n = gN c n := (gN_f _ _ _ _ _ h.2).trans (cM1_N c t h.1)
theorem Rb.take {c : Lg} {n : Nat} (h : Rb c n) (w t : Nat) : Rb (cTake c w t) n := Rb.N (by rw [cTake_3, if_neg (by omega)]) (cTake_N _ _ _ (by decide)) h
theorem kc_cM3 (c : Lg) (t : Nat) (hs : gN c 26 t 0 < 4) : kc (cM3 c t) = kc c + 1 ∧ ks (cM3 c t) = ks c + 320 := by
  have := kc_take (cM2 c t) t hs
  have h2 := kc_N (c := c) (cM2_N c t (n := 3) (by decide)) (cM2_N c t (n := 32) (by decide))
  unfold cM3; omega
theorem Rb.cM3 {c : Lg} {t n : Nat} (h : Rb c n) : Rb (cM3 c t) n := Rb.take (Rb.N (by rw [cM2_N c t (by decide)]) (cM2_N c t (by decide)) h) _ _
theorem Nb.cM3 {c : Lg} {t : Nat} (h : Nb c) (hok : Okm c) (hs : gN c 26 t 0 < 4) (ht : t < 1000) : Nb (cM3 c t) := by
  have e26 : gN (cM2 c t) 26 = gN c 26 := cM2_N c t (by decide)
  have e6 : gN (cM2 c t) 6 = gN c 6 := cM2_N c t (by decide)
  have e3 : gN (cM2 c t) 3 = gN c 3 := cM2_N c t (by decide)
  have := hok.2.2 (gN c 26 t 0) (gN c 26 t 0)
  refine Nb.take (c := cM2 c t) (Nb.uN (Nb.uN h (by decide)) (by omega)) (by rw [e6, e26]; exact this) (by rw [e3]; exact hok.2.1 _ hs) ht
theorem cM3_0 (c : Lg) (t : Nat) : gN (cM3 c t) 0 = gN c 0 := by unfold cM3; rw [cTake_N _ _ _ (by decide), cM2_N _ _ (by decide)]
theorem cM3_26 (c : Lg) (t : Nat) : gN (cM3 c t) 26 = gN c 26 := by unfold cM3; rw [cTake_N _ _ _ (by decide), cM2_N _ _ (by decide)]
theorem Nb.mk {c : Lg} {t : Nat} (h : Nb c) (hok : Okm c) (hs : gN c 26 t 0 < 4) (ht : t < 1000) (hn : gN c 0 0 0 ≤ 4) : Nb (cMk c t) := by
  unfold cMk; split
  · exact cToO_Nb _ _ _ (Nb.cM3 h hok hs ht) (Rb.cM3 hok.1) (by decide) ht (by rw [cM3_26]; exact hs) _ (by rw [cM3_0]; exact hn)
  · exact Nb.uN h (by decide)
theorem kc_mk (c : Lg) (t : Nat) (hs : gN c 26 t 0 < 4) : kc c ≤ kc (cMk c t) ∧ ks c ≤ ks (cMk c t) := by
  have h1 := kc_cM3 c t hs
  unfold cMk; split
  · have h2 := cToO_kn (cM3 c t) t 4 (Nat.zero_le (gN (cM3 c t) 0 0 0))
    have h3 : cToO (cM3 c t) t 4 0 = cM3 c t := rfl
    rw [h3] at h2; omega
  · have := kc_N (c := c) (cM1_N c t (n := 3) (by decide)) (cM1_N c t (n := 32) (by decide)); omega
def cAsk (c : Lg) (q : Nat) : Lg := if gB c 13 (gN c 24 q 0) (gN c 23 q 0) = true then c else
  if cAllFree c (gN c 24 q 0) (gN c 23 q 0) = true then
    cPost (cLock c (gN c 24 q 0) (gN c 23 q 0) (gN c 3 0 0)) 1 (gN (cLock c (gN c 24 q 0) (gN c 23 q 0) (gN c 3 0 0)) 23 q 0) (gN (cLock c (gN c 24 q 0) (gN c 23 q 0) (gN c 3 0 0)) 22 q 0) (gN (cLock c (gN c 24 q 0) (gN c 23 q 0) (gN c 3 0 0)) 24 q 0)
  else cPost c 2 (gN c 23 q 0) (gN c 22 q 0) (gN c 24 q 0)
def cYes (c : Lg) (t : Nat) : Lg := if gN c 16 t 0 = 1 then (if gN c 19 t 0 + 1 = gN c 18 t 0 then cMk (uN c 19 t 0 (gN c 19 t 0 + 1)) t else uN c 19 t 0 (gN c 19 t 0 + 1)) else uN c 19 t 0 (gN c 19 t 0 + 1)
def cNU (c : Lg) (t : Nat) : Lg := cUnlock (uN c 16 t 0 3) (gN c 26 t 0) t 12
def cNo (c : Lg) (t : Nat) : Lg := if gN c 16 t 0 = 1 then cToH (cNU c t) t 3 (gN (cNU c t) 0 0 0) else c
def cDrop (c : Lg) (q : Nat) : Lg := cUnlock (uB c 13 (gN c 24 q 0) (gN c 23 q 0) true) (gN c 23 q 0) (gN c 24 q 0) 12
def cSd1 (c : Lg) (q : Nat) : Lg := cTake c (gN c 23 q 0) (gN c 24 q 0)
def cSend (c : Lg) (q : Nat) : Lg := cPost (cSd1 c q) 5 (gN (cSd1 c q) 23 q 0) (gN (cSd1 c q) 22 q 0) (gN (cSd1 c q) 24 q 0)
def cAck (c : Lg) (q : Nat) : Lg := uN c 20 (gN c 24 q 0) 0 (gN c 20 (gN c 24 q 0) 0 + 1)
def cRecv (c : Lg) (q : Nat) : Lg := if gN c 21 q 0 = 0 then cAsk c q else if gN c 21 q 0 = 1 then cYes c (gN c 24 q 0) else if gN c 21 q 0 = 2 then cNo c (gN c 24 q 0) else if gN c 21 q 0 = 3 then cDrop c q else if gN c 21 q 0 = 4 then cSend c q else cAck c q
theorem cDrop_N (c : Lg) (q : Nat) : gN (cDrop c q) = gN c := cUnlock_N _ _ _ _
theorem cNU_N (c : Lg) (t : Nat) {n : Nat} (h : n ≠ 16) : gN (cNU c t) n = gN c n := by unfold cNU; rw [cUnlock_N]; exact gN_f _ _ _ _ _ h
theorem kc_ask (c : Lg) (q : Nat) : kc c ≤ kc (cAsk c q) ∧ ks c ≤ ks (cAsk c q) := by
  unfold cAsk; split
  · exact ⟨Nat.le_refl _, Nat.le_refl _⟩
  · split
    · have h1 := kc_post (cLock c (gN c 24 q 0) (gN c 23 q 0) (gN c 3 0 0)) 1 (gN (cLock c (gN c 24 q 0) (gN c 23 q 0) (gN c 3 0 0)) 23 q 0) (gN (cLock c (gN c 24 q 0) (gN c 23 q 0) (gN c 3 0 0)) 22 q 0) (gN (cLock c (gN c 24 q 0) (gN c 23 q 0) (gN c 3 0 0)) 24 q 0)
      have h2 := kc_N (c := c) (c' := cLock c (gN c 24 q 0) (gN c 23 q 0) (gN c 3 0 0)) (by rw [cLock_N]) (by rw [cLock_N])
      omega
    · have := kc_post c 2 (gN c 23 q 0) (gN c 22 q 0) (gN c 24 q 0); omega
theorem kc_19 (c : Lg) (t v : Nat) : kc (uN c 19 t 0 v) = kc c ∧ ks (uN c 19 t 0 v) = ks c := kc_N (gN_f _ _ _ _ _ (by decide)) (gN_f _ _ _ _ _ (by decide))
theorem kc_NU (c : Lg) (t : Nat) : kc (cNU c t) = kc c ∧ ks (cNU c t) = ks c := kc_N (cNU_N _ _ (by decide)) (cNU_N _ _ (by decide))
theorem kc_drop (c : Lg) (q : Nat) : kc (cDrop c q) = kc c ∧ ks (cDrop c q) = ks c := kc_N (by rw [cDrop_N]) (by rw [cDrop_N])
theorem kc_ack (c : Lg) (q : Nat) : kc (cAck c q) = kc c ∧ ks (cAck c q) = ks c := kc_N (gN_f _ _ _ _ _ (by decide)) (gN_f _ _ _ _ _ (by decide))
theorem kc_yes (c : Lg) (t : Nat) (hs : gN c 26 t 0 < 4) : kc c ≤ kc (cYes c t) ∧ ks c ≤ ks (cYes c t) := by
  have h1 := kc_19 c t (gN c 19 t 0 + 1)
  have h2 := kc_mk (uN c 19 t 0 (gN c 19 t 0 + 1)) t hs
  unfold cYes; split
  · split <;> omega
  · omega
theorem kc_no (c : Lg) (t : Nat) : kc c ≤ kc (cNo c t) ∧ ks c ≤ ks (cNo c t) := by
  have h1 := kc_NU c t
  have h2 := cToH_kn (cNU c t) t 3 (Nat.zero_le (gN (cNU c t) 0 0 0))
  have h3 : cToH (cNU c t) t 3 0 = cNU c t := rfl
  rw [h3] at h2
  unfold cNo; split <;> omega
theorem kc_send (c : Lg) (q : Nat) (hs : gN c 23 q 0 < 4) : kc (cSend c q) = kc c + 3 ∧ ks (cSend c q) = ks c + 3064 := by
  have h1 := kc_take c (gN c 24 q 0) hs
  have h2 := kc_post (cSd1 c q) 5 (gN (cSd1 c q) 23 q 0) (gN (cSd1 c q) 22 q 0) (gN (cSd1 c q) 24 q 0)
  have h3 : cSd1 c q = cTake c (gN c 23 q 0) (gN c 24 q 0) := rfl
  unfold cSend; rw [h3] at h2; rw [h3]; omega
theorem kc_recv (c : Lg) (q : Nat) (hs : gN c 26 (gN c 24 q 0) 0 < 4) (h23 : gN c 23 q 0 < 4) : kc c ≤ kc (cRecv c q) ∧ ks c ≤ ks (cRecv c q) := by
  have h1 := kc_ask c q
  have h2 := kc_yes c (gN c 24 q 0) hs
  have h3 := kc_no c (gN c 24 q 0)
  have h4 := kc_drop c q
  have h5 := kc_send c q h23
  have h6 := kc_ack c q
  unfold cRecv
  split
  · exact h1
  split
  · exact h2
  split
  · exact h3
  split
  · omega
  split <;> omega
theorem Nb.ask {c : Lg} {q : Nat} (h : Nb c) (hok : Okm c) (h22 : gN c 22 q 0 < 4) (h23 : gN c 23 q 0 < 4) (h24 : gN c 24 q 0 < 1000) : Nb (cAsk c q) := by
  unfold cAsk; split
  · exact h
  · split
    · refine Nb.post (Nb.ofN (cLock_N _ _ _ _) h) ?_ (by decide) (by rw [cLock_N]; exact h23) (by rw [cLock_N]; exact h22) (by rw [cLock_N]; exact h24)
      exact Rb.N (by rw [cLock_N]) (by rw [cLock_N]) (hok.1.le (by decide))
    · exact Nb.post h (hok.1.le (by decide)) (by decide) h23 h22 h24
theorem Okm.u19 {c : Lg} (h : Okm c) (t v : Nat) : Okm (uN c 19 t 0 v) := h.N (gN_f _ _ _ _ _ (by decide)) (gN_f _ _ _ _ _ (by decide)) (gN_f _ _ _ _ _ (by decide))
theorem nb_yes {c : Lg} {t : Nat} (h : Nb c) (hok : Okc c) (hs : gN c 26 t 0 < 4) (ht : t < 1000) (hn : gN c 0 0 0 ≤ 4) : Nb (cYes c t) := by
  have h1 : Nb (uN c 19 t 0 (gN c 19 t 0 + 1)) := Nb.uN h (by have := hok.2 t; omega)
  have h2 := Nb.mk h1 (hok.1.u19 _ _) hs ht hn
  unfold cYes; split
  · split
    · exact h2
    · exact h1
  · exact h1
theorem Nb.no {c : Lg} {t : Nat} (h : Nb c) (hok : Okm c) (hs : gN c 26 t 0 < 4) (ht : t < 1000) (hn : gN c 0 0 0 ≤ 4) : Nb (cNo c t) := by
  unfold cNo; split
  · refine cToH_Nb _ _ _ ?_ ?_ (by decide) ht ?_ _ ?_
    · unfold cNU; exact Nb.ofN (cUnlock_N _ _ _ _) (Nb.uN h (by decide))
    · exact Rb.N (by rw [cNU_N _ _ (by decide)]) (cNU_N _ _ (by decide)) hok.1
    · rw [cNU_N _ _ (by decide)]; exact hs
    · rw [cNU_N _ _ (by decide)]; exact hn
  · exact h
theorem Nb.send {c : Lg} {q : Nat} (h : Nb c) (hok : Okm c) (h22 : gN c 22 q 0 < 4) (h23 : gN c 23 q 0 < 4) (h24 : gN c 24 q 0 < 1000) : Nb (cSend c q) := by
  have e : ∀ n, (n ≠ 3 ∧ n ≠ 30 ∧ n ≠ 6) → gN (cSd1 c q) n = gN c n := fun n hn => cTake_N _ _ _ hn
  exact Nb.post (Nb.take h (hok.2.2 _ _) (hok.2.1 _ h23) h24) (Rb.take (hok.1.le (by decide)) _ _) (by decide) (by rw [e 23 (by decide)]; exact h23) (by rw [e 22 (by decide)]; exact h22) (by rw [e 24 (by decide)]; exact h24)
theorem Nb.recv {c : Lg} {q : Nat} (h : Nb c) (hok : Okc c) (h22 : gN c 22 q 0 < 4) (h23 : gN c 23 q 0 < 4) (h24 : gN c 24 q 0 < 1000) (hs : gN c 26 (gN c 24 q 0) 0 < 4) (hn : gN c 0 0 0 ≤ 4) : Nb (cRecv c q) := by
  unfold cRecv
  split
  · exact Nb.ask h hok.1 h22 h23 h24
  split
  · exact nb_yes h hok hs h24 hn
  split
  · exact Nb.no h hok.1 hs h24 hn
  split
  · exact Nb.ofN (cDrop_N _ _) h
  split
  · exact Nb.send h hok.1 h22 h23 h24
  · exact Nb.uN h (by have := hok.2 (gN c 24 q 0); omega)

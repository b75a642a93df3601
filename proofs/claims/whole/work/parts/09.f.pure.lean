theorem SZ.inP {env : Ev} {u : St} (hZ : SZ env u) (w n t : Nat) {i : Nat} (hi : i < 7) : PI env (wC u (uN u.2.1 30 w n t)) ∧ (∀ j y, j < gN (wC u (uN u.2.1 30 w n t)).2.1 3 i 0 → sE (wC u (uN u.2.1 30 w n t)) (sM (wC u (uN u.2.1 30 w n t)) 2 i) j = some y → Obj (wC u (uN u.2.1 30 w n t)) y) ∧ gN (wC u (uN u.2.1 30 w n t)).2.1 3 i 0 = gN u.2.1 3 i 0 := by
  have e3 : gN (uN u.2.1 30 w n t) 3 = gN u.2.1 3 := gN_f _ _ _ _ _ (by decide)
  refine ⟨hZ.1.pi.mk (fun _ _ => rfl) (fun _ => rfl) (fun _ _ _ => Iff.rfl) e3, fun j y hj hy => ?_, by show gN (uN u.2.1 30 w n t) 3 i 0 = _; rw [e3]⟩
  have hj : j < gN (uN u.2.1 30 w n t) 3 i 0 := hj
  rw [e3] at hj
  exact hZ.1.objs hi j y hj hy
theorem cIn_3 (c : Lg) (w t i j : Nat) : gN (cIn c w t) 3 i j = if i = 3 + w ∧ j = 0 then gN c 3 (3 + w) 0 + 1 else gN c 3 i j := by
  unfold cIn; rw [gN_uN]; simp [gN_uN]
theorem Nb.cin {c : Lg} (h : Nb c) {w t : Nat} (h3 : gN c 3 (3 + w) 0 ≤ 150) (ht : t < 1000) : Nb (cIn c w t) := by
  unfold cIn
  exact Nb.uN (Nb.uN h (by omega)) (by omega)
theorem SZ.into' {env : Ev} {u : St} {c : Lg} {w t a mm q' : Nat} (hZ : SZ env (wC u c)) (hw : w < 4) (hm : (8, t) ∈ sK u) (ha : sA u 8 t = a) (hq : gN c 3 (3 + w) 0 ≤ 2400) : ∃ ph, adF (vM (wC u (uN c 30 w (gN c 3 (3 + w) 0) t)) 1 (3 + w) mm) (3 + w) a q' = (ph, cIn c w t, u.2.2) ∧ SZ env (ph, cIn c w t, u.2.2) ∧ Kp u (ph, cIn c w t, u.2.2) := SZ.into (u := wC u c) hZ hw hm ha hq
theorem SZ.inP' {env : Ev} {u : St} {c : Lg} (hZ : SZ env (wC u c)) (w n t : Nat) {i : Nat} (hi : i < 7) : PI env (wC u (uN c 30 w n t)) ∧ (∀ j y, j < gN (wC u (uN c 30 w n t)).2.1 3 i 0 → sE (wC u (uN c 30 w n t)) (sM (wC u (uN c 30 w n t)) 2 i) j = some y → Obj (wC u (uN c 30 w n t)) y) ∧ gN (wC u (uN c 30 w n t)).2.1 3 i 0 = gN c 3 i 0 := SZ.inP (u := wC u c) hZ w n t hi
theorem cToO_s (c : Lg) (t x i : Nat) : cToO c t x (i + 1) = if i = gN (cToO c t x i) 26 t 0 then cToO c t x i else cPost (cToO c t x i) x (gN (cToO c t x i) 26 t 0) i t := rfl
theorem cToH_s (c : Lg) (t x i : Nat) : cToH c t x (i + 1) = if cHeQ (cToH c t x i) t i = true then cPost (cToH c t x i) x (gN (cToH c t x i) 26 t 0) i t else cToH c t x i := rfl
theorem cToHn_s (c : Lg) (t x i : Nat) : cToHn c t x (i + 1) = cToHn c t x i + (if cHeQ (cToH c t x i) t i = true then 1 else 0) := rfl
theorem cHeQ_n {c : Lg} {t w : Nat} (h : w = gN c 26 t 0) : ¬ cHeQ c t w = true := by unfold cHeQ; rw [decide_eq_true h]; simp
theorem cHeQ_t {c : Lg} {t w : Nat} {b : Bool} (h : ¬ w = gN c 26 t 0) (h2 : cHasHome c t w = b) : cHeQ c t w = b := by unfold cHeQ; rw [decide_eq_false h, h2]; rfl
theorem cHeQ_f {c : Lg} {t w : Nat} (h2 : cHasHome c t w = false) : ¬ cHeQ c t w = true := by unfold cHeQ; rw [h2]; simp
theorem Kp.w (u : St) (c m : Lg) : Kp u (u.1, c, m) := Kp.rf u
theorem Kp.c {u : St} {ph : Ph} {c c' m m' : Lg} (h : Kp u (ph, c, m)) : Kp u (ph, c', m') := h
theorem cT1_N (c : Lg) (w t : Nat) {n : Nat} (h : n ≠ 6) : gN (cT1 c w t) n = gN c n := gN_f _ _ _ _ _ h

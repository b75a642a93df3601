def wC (u : St) (g : Lg) : St := (u.1, g, u.2.2)
theorem SI.same {env : Ev} {u : St} {g : Lg} (h : ∀ f, f < 4 ∨ 21 ≤ f → gN g f = gN u.2.1 f) (hI : SI env u) : SI env (wC u g) := by
  have e0 := h 0 (by decide); have e3 := h 3 (by decide); have e22 := h 22 (by decide); have e23 := h 23 (by decide); have e24 := h 24 (by decide); have e25 := h 25 (by decide); have e26 := h 26 (by decide); have e30 := h 30 (by decide); have e31 := h 31 (by decide)
  unfold SI at *
  show (((0, 0) ∈ sK u ∧ _) ∧ _)
  simp only [wC, e0, e3, e22, e23, e24, e25, e26, e30, e31]
  exact hI
theorem SI.sameN {env : Ev} {u : St} {g : Lg} (h : gN g = gN u.2.1) (hI : SI env u) : SI env (wC u g) := SI.same (fun f _ => by rw [h]) hI
def cP1 (c : Lg) (t k : Nat) : Lg := if gB c 10 t k = true then c else uN (uB c 10 t k true) 15 t 0 (gN c 15 t 0 + 1)
def cPut (c : Lg) (t k : Nat) (x : Int64) : Lg := uJ (cP1 c t k) 11 t k x
def cAddTo (c : Lg) (t x : Nat) (n : Int32) : Lg := uB (uJ c 12 t x (gJ c 12 t x + n.toInt64)) 14 t 0 true
theorem cP1_f (c : Lg) (t k : Nat) {f : Nat} (hf : f ≠ 15) : gN (cP1 c t k) f = gN c f := by
  unfold cP1; split
  · rfl
  · show up3 _ 15 _ _ _ f = _
    unfold up3; rw [if_neg hf]; rfl
def cUnlock (c : Lg) (w t : Nat) : Nat → Lg
  | 0 => c
  | k + 1 => if gI (cUnlock c w t k) 7 w k = nI t then uI (cUnlock c w t k) 7 w k (-4) else cUnlock c w t k
theorem cUnlock_N (c : Lg) (w t : Nat) : ∀ i, gN (cUnlock c w t i) = gN c
  | 0 => rfl
  | i + 1 => by unfold cUnlock; split; exact cUnlock_N c w t i; exact cUnlock_N c w t i
theorem cUnlock_B (c : Lg) (w t : Nat) : ∀ i, gB (cUnlock c w t i) = gB c
  | 0 => rfl
  | i + 1 => by unfold cUnlock; split; exact cUnlock_B c w t i; exact cUnlock_B c w t i
theorem cUnlock_J (c : Lg) (w t : Nat) : ∀ i, gJ (cUnlock c w t i) = gJ c
  | 0 => rfl
  | i + 1 => by unfold cUnlock; split; exact cUnlock_J c w t i; exact cUnlock_J c w t i
def cLock (c : Lg) (t w : Nat) : Nat → Lg
  | 0 => c
  | k + 1 => if cPlQ (cLock c t w k) t w k = true then uI (cLock c t w k) 7 w k (nI t) else cLock c t w k
theorem cLock_N (c : Lg) (t w : Nat) : ∀ i, gN (cLock c t w i) = gN c
  | 0 => rfl
  | i + 1 => by unfold cLock; split; exact cLock_N c t w i; exact cLock_N c t w i
theorem cLock_B (c : Lg) (t w : Nat) : ∀ i, gB (cLock c t w i) = gB c
  | 0 => rfl
  | i + 1 => by unfold cLock; split; exact cLock_B c t w i; exact cLock_B c t w i
theorem cLock_J (c : Lg) (t w : Nat) : ∀ i, gJ (cLock c t w i) = gJ c
  | 0 => rfl
  | i + 1 => by unfold cLock; split; exact cLock_J c t w i; exact cLock_J c t w i
/-! public writers without new objects -/
def csites (c : Lg) (v1 v2 : Int32) : Int32 × Lg := match ix v1 5 with
  | none => (-1, c)
  | some a => if a < 2 then (-1, c) else match ix v2 a with
    | none => (-1, c)
    | some b => if 0 < gN c 3 0 0 ∨ 0 < gN c 3 1 0 then (-2, c) else (nI 1, uN (uN c 0 0 0 a) 1 0 0 b)
def cwrite (c : Lg) (v1 v2 : Int32) (x : Int64) : Int32 × Lg := match ix v1 (gN c 3 1 0) with
  | none => (-1, c)
  | some t => match ix v2 (gN c 3 0 0) with
    | none => (-1, c)
    | some k => if gB c 4 k 0 = true then (-1, c) else if gN c 16 t 0 = 0 then (nI (gN (cPut c t k x) 15 t 0), cPut c t k x) else (-2, c)
def cadd (c : Lg) (v1 v2 v3 x : Int32) : Int32 × Lg := match ix v1 (gN c 3 1 0) with
  | none => (-1, c)
  | some t => match ix v2 (gN c 3 0 0) with
    | none => (-1, c)
    | some k => if gB c 4 k 0 = true then (match ix v3 8 with
      | none => (-1, c)
      | some e => if gN c 16 t 0 = 0 then (nI 1, cAddTo c t (k * 8 + e) x) else (-2, c)) else (-1, c)
def cabort (c : Lg) (v : Int32) : Int32 × Lg := match ix v (gN c 3 1 0) with
  | none => (-1, c)
  | some t => if gN c 16 t 0 = 0 then (nI 1, uN c 16 t 0 3) else (-2, c)

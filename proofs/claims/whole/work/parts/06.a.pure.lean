/-! the class, read as functions of its store c -/
def cWithin (c : Lg) (t k i : Nat) : Bool := decide (0 < gN c 17 t 0) && decide (gN c 17 t 0 ≤ gN c k i (gN c 26 t 0))
def cFrQ (c : Lg) (w k t i : Nat) : Bool := !gB c 10 (gN c 30 w i) k || cWithin c (gN c 30 w i) 9 t
def cIsFree (c : Lg) (w k t : Nat) : Bool := decide (gI c 7 w k = -4) && allN (cFrQ c w k t) (gN c 3 (3 + w) 0)
def cVaQ (c : Lg) (w k q r i : Nat) : Bool := gB c 10 (gN c 30 w i) k && cWithin c (gN c 30 w i) q r
def cVaV (c : Lg) (w k i : Nat) : Int64 := gJ c 11 (gN c 30 w i) k
def cValueOf (c : Lg) (w k q r : Nat) : Int64 := lastL (cVaQ c w k q r) (cVaV c w k) (gN c 3 (3 + w) 0)
def cCoV (c : Lg) (w x q r i : Nat) : Int64 := if cWithin c (gN c 30 w i) q r = true then gJ c 12 (gN c 30 w i) x else 0
def cCountOf (c : Lg) (w x q r : Nat) : Int64 := sumL (cCoV c w x q r) (gN c 3 (3 + w) 0)
def cTkQ (c : Lg) (w t o : Nat) : Bool := !decide (gN c 6 w o < gN c 9 t o)
def cCanTake (c : Lg) (w t : Nat) : Bool := !decide (gN c 6 w (gN c 26 t 0) + 1 < gN c 17 t 0) && allN (cTkQ c w t) 4
def cCanCome (c : Lg) (q : Nat) : Bool := !decide (gN c 21 q 0 = 4) || cCanTake c (gN c 23 q 0) (gN c 24 q 0)
def cHoQ (c : Lg) (w i : Nat) : Bool := !decide (gI c 7 w i = -4)
def cAny (c : Lg) (t : Nat) : Bool := decide (0 < gN c 15 t 0) || gB c 14 t 0
def cPlQ (c : Lg) (t w k : Nat) : Bool := gB c 10 t k && decide (gN c 25 k 0 = w)
def cHasHome (c : Lg) (t w : Nat) : Bool := anyN (cPlQ c t w) (gN c 3 0 0)
def cHeQ (c : Lg) (t w : Nat) : Bool := !decide (w = gN c 26 t 0) && cHasHome c t w
def cElse (c : Lg) (t : Nat) : Bool := anyN (cHeQ c t) (gN c 0 0 0)
def cAfQ (c : Lg) (t w k : Nat) : Bool := !cPlQ c t w k || cIsFree c w k t
def cAllFree (c : Lg) (t w : Nat) : Bool := allN (cAfQ c t w) (gN c 3 0 0)
def cSafe (c : Lg) (t : Nat) : Bool := decide (0 < gN c 17 t 0) && decide (gN c 1 0 0 ≤ gN c 20 t 0)
def cEvery (c : Lg) (t : Nat) : Bool := decide (0 < gN c 17 t 0) && decide (gN c 0 0 0 ≤ gN c 20 t 0 + 1)
def cStQ (c : Lg) (x t : Nat) : Bool := decide (gN c 16 t 0 = x)
def sumN (q : Nat → Nat) : Nat → Nat
  | 0 => 0
  | n + 1 => sumN q n + q n
theorem sumN_s (q : Nat → Nat) (n : Nat) : sumN q (n + 1) = sumN q n + q n := rfl
theorem nI_lt_sub1 {a c : Nat} (ha : a < 1073741824) (hc : c < 1073741824) : nI a < nI c - nI 1 ↔ a + 1 < c := by
  have e := pk_sub_toInt (a := c) (b := 1) (by omega) (by omega)
  rw [Int32.lt_iff_toInt_lt, e, nI_toInt (by omega)]
  omega
def cPlain (u : St) (v : Int32) : Option Nat := match ix v (gN u.2.1 3 0 0) with
  | none => none
  | some k => if gB u.2.1 4 k 0 = true then none else some (sA u 4 k)
def cSet (u : St) (v : Int32) : Option Nat := match ix v (gN u.2.1 3 0 0) with
  | none => none
  | some k => if gB u.2.1 4 k 0 = true then some (sA u 4 k) else none
theorem Bd.eqi {env : Ev} {s0 : Nat} {X : va_W} {u : St} {s : State} {H : Heap} {locs : List Loc} {k i i' x y : Nat} (hB : Bd env s0 X u s H locs) (h1 : At u k i x) (h2 : At u k i' y) : x = y ↔ i = i' := by
  obtain ⟨m1, e1⟩ := h1
  obtain ⟨m2, e2⟩ := h2
  constructor
  · intro z
    obtain ⟨w1, hw1⟩ := List.getElem?_of_mem m1
    obtain ⟨w2, hw2⟩ := List.getElem?_of_mem m2
    have q1 : (X ++ pool env u)[X.length + w1]? = some (sA u k i, cn env u k i) := by
      rw [List.getElem?_append_right (by omega), Nat.add_sub_cancel_left]; simp [pool, hw1]
    have q2 : (X ++ pool env u)[X.length + w2]? = some (sA u k i', cn env u k i') := by
      rw [List.getElem?_append_right (by omega), Nat.add_sub_cancel_left]; simp [pool, hw2]
    have q3 := hB.1.2.2.1 _ _ _ _ q1 q2 (by show sA u k i = sA u k i'; rw [e1, e2, z])
    have q4 : w1 = w2 := by omega
    subst q4
    rw [hw1] at hw2
    cases hw2; rfl
  · intro z
    subst z
    rw [← e1, e2]
theorem SI.get {env : Ev} {u : St} (h : SI env u) {i j : Nat} (hi : i < 7) (hj : j < gN u.2.1 3 i 0) : (3, i) ∈ sK u ∧ gN u.2.1 3 i 0 ≤ sM u 0 i ∧ sM u 0 i ≤ 4096 := by
  have := h.cap hi
  exact ⟨this.2.2.1 (by omega), this.1, this.2.1⟩

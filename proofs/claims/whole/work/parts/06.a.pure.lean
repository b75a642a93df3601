/-! the class, read as functions of its store c -/
def cWithin (c : Lg) (t k i : Nat) : Bool := decide (0 < gN c 17 t 0) && decide (gN c 17 t 0 ≤ gN c k i (gN c 26 t 0))
def cFrQ (c : Lg) (w k t i : Nat) : Bool := !gB c 10 (gN c 30 w i) k || cWithin c (gN c 30 w i) 9 t
def cIsFree (c : Lg) (w k t : Nat) : Bool := decide (gI c 7 w k = -4) && allN (cFrQ c w k t) (gN c 3 (3 + w) 0)
def cVaQ (c : Lg) (w k q r i : Nat) : Bool := gB c 10 (gN c 30 w i) k && cWithin c (gN c 30 w i) q r
def cVaV (c : Lg) (w k i : Nat) : Int64 := gJ c 11 (gN c 30 w i) k
def cValueOf (c : Lg) (w k q r : Nat) : Int64 := lastL (cVaQ c w k q r) (cVaV c w k) (gN c 3 (3 + w) 0)
def cCoV (c : Lg) (w x q r i : Nat) : Int64 := if cWithin c (gN c 30 w i) q r = true then gJ c 12 (gN c 30 w i) x else 0
def cCountOf (c : Lg) (w x q r : Nat) : Int64 := sumL (cCoV c w x q r) (gN c 3 (3 + w) 0)
def cTkQ (c : Lg) (w t o : Nat) : Bool := !decide (gN c 6 w o < gN c 9 t o)
def cCanTake (c : Lg) (w t : Nat) : Bool := !decide (gN c 6 w (gN c 26 t 0) + 1 < gN c 17 t 0) && allN (cTkQ c w t) 4
def cCanCome (c : Lg) (q : Nat) : Bool := !decide (gN c 21 q 0 = 4) || cCanTake c (gN c 23 q 0) (gN c 24 q 0)
def cHoQ (c : Lg) (w i : Nat) : Bool := !decide (gI c 7 w i = -4)
def cAny (c : Lg) (t : Nat) : Bool := decide (0 < gN c 15 t 0) || gB c 14 t 0
def cPlQ (c : Lg) (t w k : Nat) : Bool := gB c 10 t k && decide (gN c 25 k 0 = w)
def cHasHome (c : Lg) (t w : Nat) : Bool := anyN (cPlQ c t w) (gN c 3 0 0)
def cHeQ (c : Lg) (t w : Nat) : Bool := !decide (w = gN c 26 t 0) && cHasHome c t w
def cElse (c : Lg) (t : Nat) : Bool := anyN (cHeQ c t) (gN c 0 0 0)
def cAfQ (c : Lg) (t w k : Nat) : Bool := !cPlQ c t w k || cIsFree c w k t
def cAllFree (c : Lg) (t w : Nat) : Bool := allN (cAfQ c t w) (gN c 3 0 0)
def cSafe (c : Lg) (t : Nat) : Bool := decide (0 < gN c 17 t 0) && decide (gN c 1 0 0 ≤ gN c 20 t 0)
def cEvery (c : Lg) (t : Nat) : Bool := decide (0 < gN c 17 t 0) && decide (gN c 0 0 0 ≤ gN c 20 t 0 + 1)
def cStQ (c : Lg) (x t : Nat) : Bool := decide (gN c 16 t 0 = x)
def sumN (q : Nat → Nat) : Nat → Nat
  | 0 => 0
  | n + 1 => sumN q n + q n
theorem sumN_s (q : Nat → Nat) (n : Nat) : sumN q (n + 1) = sumN q n + q n := rfl
theorem nI_lt_sub1 {a c : Nat} (ha : a < 1073741824) (hc : c < 1073741824) : nI a < nI c - nI 1 ↔ a + 1 < c := by
  have e := pk_sub_toInt (a := c) (b := 1) (by omega) (by omega)
  rw [Int32.lt_iff_toInt_lt, e, nI_toInt (by omega)]
  omega
def cPlain (u : St) (v : Int32) : Option Nat := match ix v (gN u.2.1 3 0 0) with
  | none => none
  | some k => if gB u.2.1 4 k 0 = true then none else some (sA u 4 k)
def cSet (u : St) (v : Int32) : Option Nat := match ix v (gN u.2.1 3 0 0) with
  | none => none
  | some k => if gB u.2.1 4 k 0 = true then some (sA u 4 k) else none
theorem b2i_n (q : Bool) : b2i q = nI (if q = true then 1 else 0) := by cases q <;> rfl
theorem w_iadd_nb {p : Program} {l : Launch} {e : Env} {R : Room} {s : State} {m : MethodId} {args : Array Value} {below : List Frame} {meth : Method} {c : Code} {H : Heap} {locs : List Loc} {cells slots : Nat} {Q : State → Prop} {cc : ByteArray} {pc : Nat} {ls : Array Slot} {rest : List Value} {a : Nat} {q : Bool} (hx : p.tables.exec = Jvm.exec) (hb : c.code = cc) (hdg : decode cc pc = .ok (.iadd, 1)) (kk : W p l e R s m args below meth c H locs cells slots Q (F0 m (pc + 1) ls (.int (nI (a + (if q = true then 1 else 0))) :: rest))) : W p l e R s m args below meth c H locs cells slots Q (F0 m pc ls (.int (b2i q) :: .int (nI a) :: rest)) :=
  lv_iadd hx hb hdg (by rw [b2i_n, nI_add]; exact kk)
theorem Bd.eqi {env : Ev} {s0 : Nat} {X : va_W} {u : St} {s : State} {H : Heap} {locs : List Loc} {k i i' x y : Nat} (hB : Bd env s0 X u s H locs) (h1 : At u k i x) (h2 : At u k i' y) : x = y ↔ i = i' := by
  obtain ⟨m1, e1⟩ := h1
  obtain ⟨m2, e2⟩ := h2
  constructor
  · intro z
    obtain ⟨w1, hw1⟩ := List.getElem?_of_mem m1
    obtain ⟨w2, hw2⟩ := List.getElem?_of_mem m2
    have q1 : (X ++ pool env u)[X.length + w1]? = some (sA u k i, cn env u k i) := by
      rw [List.getElem?_append_right (by omega), Nat.add_sub_cancel_left]; simp [pool, hw1]
    have q2 : (X ++ pool env u)[X.length + w2]? = some (sA u k i', cn env u k i') := by
      rw [List.getElem?_append_right (by omega), Nat.add_sub_cancel_left]; simp [pool, hw2]
    have q3 := hB.1.2.2.1 _ _ _ _ q1 q2 (by show sA u k i = sA u k i'; rw [e1, e2, z])
    have q4 : w1 = w2 := by omega
    subst q4
    rw [hw1] at hw2
    cases hw2; rfl
  · intro z
    subst z
    rw [← e1, e2]
theorem SI.get {env : Ev} {u : St} (h : SI env u) {i j : Nat} (hi : i < 7) (hj : j < gN u.2.1 3 i 0) : (3, sM u 2 i) ∈ sK u ∧ gN u.2.1 3 i 0 ≤ sM u 0 (sM u 2 i) ∧ sM u 0 (sM u 2 i) ≤ 4096 := by
  have := h.cap hi
  exact ⟨this.2.2.1 (by omega), this.1, this.2.1⟩
/-! the class's public reads -/
def cRead (c : Lg) (t k : Nat) : Int64 := if gB c 10 t k = true then gJ c 11 t k else cValueOf c (gN c 26 t 0) k 9 t
def cread (c : Lg) (v1 v2 : Int32) : Int64 := match ix v1 (gN c 3 1 0) with
  | none => 0
  | some t => match ix v2 (gN c 3 0 0) with
    | none => 0
    | some k => if gB c 4 k 0 = true then 0 else cRead c t k
def ccounted (c : Lg) (v1 v2 v3 : Int32) : Int64 := match ix v1 (gN c 3 1 0) with
  | none => 0
  | some t => match ix v2 (gN c 3 0 0) with
    | none => 0
    | some k => if gB c 4 k 0 = true then (match ix v3 8 with
      | none => 0
      | some e => gJ c 12 t (k * 8 + e) + cCountOf c (gN c 26 t 0) (k * 8 + e) 9 t) else 0
def clatest (c : Lg) (v1 v2 : Int32) : Int64 := match ix v1 (gN c 0 0 0) with
  | none => 0
  | some w => match ix v2 (gN c 3 0 0) with
    | none => 0
    | some k => if gB c 4 k 0 = true then 0 else cValueOf c w k 6 w
def csum (c : Lg) (v1 v2 v3 : Int32) : Int64 := match ix v1 (gN c 0 0 0) with
  | none => 0
  | some w => match ix v2 (gN c 3 0 0) with
    | none => 0
    | some k => if gB c 4 k 0 = true then (match ix v3 8 with
      | none => 0
      | some e => cCountOf c w (k * 8 + e) 6 w) else 0
def cstart (c : Lg) (v1 v2 : Int32) : Int32 := match ix v1 (gN c 3 1 0) with
  | none => -1
  | some t => match ix v2 (gN c 0 0 0) with
    | none => -1
    | some w => nI (gN c 9 t w)
def chad (c : Lg) (v1 v2 : Int32) : Int32 := match ix v1 (gN c 0 0 0) with
  | none => -1
  | some w => match ix v2 (gN c 0 0 0) with
    | none => -1
    | some o => nI (gN c 6 w o)
def clocked (c : Lg) (v1 v2 : Int32) : Int32 := match ix v1 (gN c 0 0 0) with
  | none => -1
  | some w => match ix v2 (gN c 3 0 0) with
    | none => -1
    | some k => gI c 7 w k
def csees (c : Lg) (v1 v2 : Int32) : Int32 := match ix v1 (gN c 3 1 0) with
  | none => -1
  | some t => match ix v2 (gN c 3 1 0) with
    | none => -1
    | some o => if 0 < gN c 17 o 0 then b2i (decide (t = o) || cWithin c o 9 t) else -4
def cmessage (c : Lg) (v w : Int32) : Int32 := match ix v (gN c 3 2 0) with
  | none => -1
  | some i => match ix w 5 with
    | none => -1
    | some j => if j = 0 then nI (gN c 21 (gN c 31 0 i) 0) else if j = 1 then nI (gN c 23 (gN c 31 0 i) 0) else if j = 2 then nI (gN c 22 (gN c 31 0 i) 0) else if j = 3 then nI (gN c 24 (gN c 31 0 i) 0) else b2i (cCanCome c (gN c 31 0 i))
def ctold (c : Lg) (v w : Int32) : Int32 := match ix v (gN c 3 1 0) with
  | none => -1
  | some t => match ix w 9 with
    | none => -1
    | some j => if j = 0 then nI (gN c 16 t 0) else if j = 1 then nI (gN c 26 t 0) else if j = 2 then nI (gN c 17 t 0) else if j = 3 then nI (gN c 20 t 0) else if j = 4 then b2i (cSafe c t) else if j = 5 then b2i (cEvery c t) else if j = 6 then nI (gN c 15 t 0) else if j = 7 then nI (gN c 19 t 0) else nI (gN c 18 t 0)
def cCaQ (c : Lg) (w o : Nat) : Bool := decide (gN c 6 w o = gN c 6 o o)
def cCaR (c : Lg) (w : Nat) : Bool := allN (cCaQ c w) (gN c 0 0 0)
def cCalm (c : Lg) : Bool := allN (cCaR c) (gN c 0 0 0)
def cOwn (c : Lg) (w : Nat) : Nat := gN c 6 w w
def cLkd (c : Lg) (w : Nat) : Nat := cntN (cHoQ c w) 12
def ccount (c : Lg) (w : Int32) : Int32 := match ix w 10 with
  | none => -1
  | some j => if j = 0 then nI (gN c 0 0 0) else if j = 1 then nI (gN c 1 0 0) else if j = 2 then nI (gN c 3 0 0) else if j = 3 then nI (gN c 3 1 0) else if j = 4 then nI (gN c 3 2 0) else if j = 5 then nI (cntN (cStQ c 2) (gN c 3 1 0)) else if j = 6 then nI (cntN (cStQ c 3) (gN c 3 1 0)) else if j = 7 then nI (sumN (cOwn c) (gN c 0 0 0)) else if j = 8 then nI (sumN (cLkd c) (gN c 0 0 0)) else nI (cntN (cSafe c) (gN c 3 1 0))
def cMsQ (c : Lg) (i : Nat) : Bool := cCanCome c (gN c 31 0 i)
def cFirst (c : Lg) : Option Nat := firstN (cMsQ c) (gN c 3 2 0)

/-! the words that every method takes as given: those of the tables that stay under a call -/
def wk : Cond → Bool
  | .arrayClass _ => true
  | .arrayOver (.object _) => true
  | .fieldLinkNest .. => true
  | .methodLinkNest .. => true
  | .castable .. => true
  | w => w.onTables && w.keeps
def TT : List Cond := lw_tbl.filter wk
def Tb (U : State) : Prop := ∀ w ∈ TT, ∀ a : Array Value, w.before a U = true
theorem Tb.warm {s U : State} (hW : s.WarmedH U.vm) (h : Tb s) : Tb U := by
  intro w hw a
  have hk : wk w = true := (List.mem_filter.mp hw).2
  have h0 := h w hw #[]
  cases w
  case arrayClass ty => exact word_at hW (Or.inr ⟨ty, rfl⟩) h0
  case fieldLinkNest => exact va_Nw.use rfl (va_Nw.warmF hW h0)
  case methodLinkNest => exact va_Nw.use rfl (va_Nw.warmM hW h0)
  case castable => exact va_Nw.use rfl (va_Nw.warmC hW h0)
  case arrayOver ty =>
    cases ty
    case object C => exact va_AO.use (va_AO.moved hW.alike (va_AO.of h0))
    all_goals exact word_at hW (Or.inl hk) h0
  all_goals exact word_at hW (Or.inl hk) h0
/-! the state: physical part (keys that live, address of a key, capacity and modCount of lists, elements), logical part (naturals, booleans, raw ints, longs) -/
abbrev Ph := List (Nat × Nat) × (Nat → Nat → Nat) × (Nat → Nat → Nat) × (Nat → Nat → Option Nat)
abbrev Lg := (Nat → Nat → Nat → Nat) × (Nat → Nat → Nat → Bool) × (Nat → Nat → Nat → Int32) × (Nat → Nat → Nat → Int64)
abbrev St := Ph × Lg × Lg
abbrev Ev := va_G × (Nat → ClassId) × Nat × Nat
def sK (u : St) : List (Nat × Nat) := u.1.1
def sA (u : St) : Nat → Nat → Nat := u.1.2.1
def sM (u : St) : Nat → Nat → Nat := u.1.2.2.1
def sE (u : St) : Nat → Nat → Option Nat := u.1.2.2.2
def gN (g : Lg) : Nat → Nat → Nat → Nat := g.1
def gB (g : Lg) : Nat → Nat → Nat → Bool := g.2.1
def gI (g : Lg) : Nat → Nat → Nat → Int32 := g.2.2.1
def gJ (g : Lg) : Nat → Nat → Nat → Int64 := g.2.2.2
def up3 {α : Type} (F : Nat → Nat → Nat → α) (f i j : Nat) (v : α) : Nat → Nat → Nat → α := fun f' => if f' = f then (fun i' j' => if i' = i ∧ j' = j then v else F f i' j') else F f'
def uN (g : Lg) (f i j : Nat) (v : Nat) : Lg := (up3 (gN g) f i j v, gB g, gI g, gJ g)
def uB (g : Lg) (f i j : Nat) (v : Bool) : Lg := (gN g, up3 (gB g) f i j v, gI g, gJ g)
def uI (g : Lg) (f i j : Nat) (v : Int32) : Lg := (gN g, gB g, up3 (gI g) f i j v, gJ g)
def uJ (g : Lg) (f i j : Nat) (v : Int64) : Lg := (gN g, gB g, gI g, up3 (gJ g) f i j v)
def b2i (b : Bool) : Int32 := if b then 1 else 0
def tyL (env : Ev) : List (ClassId × FieldType) := [(env.2.1 0, .int), (env.2.1 1, .long), (env.2.1 2, .boolean), (env.2.1 3, .object "FarStore$Site"), (env.2.1 4, .object "java/lang/Object")]
/-- a key lives, at this address -/
def At (u : St) (k i a : Nat) : Prop := (k, i) ∈ sK u ∧ sA u k i = a
set_option maxRecDepth 100000 in
def cn (env : Ev) (u : St) (k i : Nat) : va_E := match k with
  | 0 => .inr (5, [.ref (sA u 1 0), .int (nI (gN u.2.1 0 i 0)), .int (nI (gN u.2.1 1 i 0)), .ref (sA u 2 0), .ref (sA u 2 1), .ref (sA u 2 2)])
  | 1 => .inl (env.2.1 3, 4, .inr (.inr (.inr (.inr (fun j => some (sA u 5 j))))))
  | 2 => .inr (0, [.int (nI (sM u 1 i)), .ref (sA u 3 (sM u 2 i)), .int (nI (gN u.2.1 3 i 0))])
  | 3 => .inl (env.2.1 4, sM u 0 i, .inr (.inr (.inr (.inr (sE u i)))))
  | 4 => .inr (3, [.int (nI i), .ref (sA u 5 (gN u.2.1 25 i 0)), .int (b2i (gB u.2.1 4 i 0))])
  | 5 => .inr (2, [.int (nI i), .ref (sA u 6 i), .ref (sA u 2 (3 + i)), .ref (sA u 7 i)])
  | 6 => .inl (env.2.1 0, 4, .inl (fun j => nI (gN u.2.1 6 i j)))
  | 7 => .inl (env.2.1 0, 12, .inl (fun j => gI u.2.1 7 i j))
  | 8 => .inr (4, [.int (nI i), .ref (sA u 5 (gN u.2.1 26 i 0)), .ref (sA u 9 i), .ref (sA u 10 i), .ref (sA u 11 i), .ref (sA u 12 i), .ref (sA u 13 i), .int (b2i (gB u.2.1 14 i 0)), .int (nI (gN u.2.1 15 i 0)), .int (nI (gN u.2.1 16 i 0)), .int (nI (gN u.2.1 17 i 0)), .int (nI (gN u.2.1 18 i 0)), .int (nI (gN u.2.1 19 i 0)), .int (nI (gN u.2.1 20 i 0))])
  | 9 => .inl (env.2.1 0, 4, .inl (fun j => nI (gN u.2.1 9 i j)))
  | 10 => .inl (env.2.1 2, 12, .inl (fun j => b2i (gB u.2.1 10 i j)))
  | 11 => .inl (env.2.1 1, 12, .inr (.inl (fun j => gJ u.2.1 11 i j)))
  | 12 => .inl (env.2.1 1, 96, .inr (.inl (fun j => gJ u.2.1 12 i j)))
  | 13 => .inl (env.2.1 2, 4, .inl (fun j => b2i (gB u.2.1 13 i j)))
  | 14 => .inr (1, [.int (nI (gN u.2.1 21 i 0)), .ref (sA u 5 (gN u.2.1 22 i 0)), .ref (sA u 5 (gN u.2.1 23 i 0)), .ref (sA u 8 (gN u.2.1 24 i 0))])
  | 20 => .inr (6, [.int (nI (gN u.2.2 50 i 0)), .int (nI (gN u.2.2 51 i 0)), .int (nI (gN u.2.2 52 i 0)), .ref (sA u 24 0), .ref (sA u 25 0), .int (nI (gN u.2.2 55 i 0)), .ref (sA u 27 0), .ref (sA u 28 0), .ref (sA u 29 0), .ref (sA u 30 0), .ref (sA u 31 0), .ref (sA u 32 0), .ref (sA u 33 0), .ref (sA u 34 0), .ref (sA u 35 0), .ref (sA u 36 0), .ref (sA u 37 0), .ref (sA u 38 0), .ref (sA u 39 0), .ref (sA u 40 0), .ref (sA u 41 0), .ref (sA u 42 0), .int (nI (gN u.2.2 72 i 0)), .ref (sA u 44 0), .ref (sA u 45 0), .ref (sA u 46 0), .ref (sA u 47 0)])
  | 24 => .inl (env.2.1 0, 12, .inl (fun j => nI (gN u.2.2 53 i j)))
  | 25 => .inl (env.2.1 2, 12, .inl (fun j => b2i (gB u.2.2 54 i j)))
  | 27 => .inl (env.2.1 0, 150, .inl (fun j => nI (gN u.2.2 56 i j)))
  | 28 => .inl (env.2.1 0, 150, .inl (fun j => nI (gN u.2.2 57 i j)))
  | 29 => .inl (env.2.1 0, 600, .inl (fun j => nI (gN u.2.2 58 i j)))
  | 30 => .inl (env.2.1 0, 150, .inl (fun j => nI (gN u.2.2 59 i j)))
  | 31 => .inl (env.2.1 0, 150, .inl (fun j => nI (gN u.2.2 60 i j)))
  | 32 => .inl (env.2.1 0, 150, .inl (fun j => nI (gN u.2.2 61 i j)))
  | 33 => .inl (env.2.1 0, 150, .inl (fun j => nI (gN u.2.2 62 i j)))
  | 34 => .inl (env.2.1 2, 600, .inl (fun j => b2i (gB u.2.2 63 i j)))
  | 35 => .inl (env.2.1 2, 1800, .inl (fun j => b2i (gB u.2.2 64 i j)))
  | 36 => .inl (env.2.1 1, 1800, .inr (.inl (fun j => gJ u.2.2 65 i j)))
  | 37 => .inl (env.2.1 2, 1800, .inl (fun j => b2i (gB u.2.2 66 i j)))
  | 38 => .inl (env.2.1 1, 14400, .inr (.inl (fun j => gJ u.2.2 67 i j)))
  | 39 => .inl (env.2.1 0, 16, .inl (fun j => nI (gN u.2.2 68 i j)))
  | 40 => .inl (env.2.1 0, 600, .inl (fun j => nI (gN u.2.2 69 i j)))
  | 41 => .inl (env.2.1 0, 4, .inl (fun j => nI (gN u.2.2 70 i j)))
  | 42 => .inl (env.2.1 0, 48, .inl (fun j => gI u.2.2 71 i j))
  | 44 => .inl (env.2.1 0, 2400, .inl (fun j => nI (gN u.2.2 73 i j)))
  | 45 => .inl (env.2.1 0, 2400, .inl (fun j => nI (gN u.2.2 74 i j)))
  | 46 => .inl (env.2.1 0, 2400, .inl (fun j => nI (gN u.2.2 75 i j)))
  | 47 => .inl (env.2.1 0, 2400, .inl (fun j => nI (gN u.2.2 76 i j)))
  | _ => .inr (0, [])
theorem cn_0 (env : Ev) (u : St) (i : Nat) : cn env u 0 i = .inr (5, [.ref (sA u 1 0), .int (nI (gN u.2.1 0 i 0)), .int (nI (gN u.2.1 1 i 0)), .ref (sA u 2 0), .ref (sA u 2 1), .ref (sA u 2 2)]) := rfl
theorem cn_1 (env : Ev) (u : St) (i : Nat) : cn env u 1 i = .inl (env.2.1 3, 4, .inr (.inr (.inr (.inr (fun j => some (sA u 5 j)))))) := rfl
theorem cn_2 (env : Ev) (u : St) (i : Nat) : cn env u 2 i = .inr (0, [.int (nI (sM u 1 i)), .ref (sA u 3 (sM u 2 i)), .int (nI (gN u.2.1 3 i 0))]) := rfl
theorem cn_3 (env : Ev) (u : St) (i : Nat) : cn env u 3 i = .inl (env.2.1 4, sM u 0 i, .inr (.inr (.inr (.inr (sE u i))))) := rfl
theorem cn_4 (env : Ev) (u : St) (i : Nat) : cn env u 4 i = .inr (3, [.int (nI i), .ref (sA u 5 (gN u.2.1 25 i 0)), .int (b2i (gB u.2.1 4 i 0))]) := rfl
theorem cn_5 (env : Ev) (u : St) (i : Nat) : cn env u 5 i = .inr (2, [.int (nI i), .ref (sA u 6 i), .ref (sA u 2 (3 + i)), .ref (sA u 7 i)]) := rfl
theorem cn_6 (env : Ev) (u : St) (i : Nat) : cn env u 6 i = .inl (env.2.1 0, 4, .inl (fun j => nI (gN u.2.1 6 i j))) := rfl
theorem cn_7 (env : Ev) (u : St) (i : Nat) : cn env u 7 i = .inl (env.2.1 0, 12, .inl (fun j => gI u.2.1 7 i j)) := rfl
theorem cn_8 (env : Ev) (u : St) (i : Nat) : cn env u 8 i = .inr (4, [.int (nI i), .ref (sA u 5 (gN u.2.1 26 i 0)), .ref (sA u 9 i), .ref (sA u 10 i), .ref (sA u 11 i), .ref (sA u 12 i), .ref (sA u 13 i), .int (b2i (gB u.2.1 14 i 0)), .int (nI (gN u.2.1 15 i 0)), .int (nI (gN u.2.1 16 i 0)), .int (nI (gN u.2.1 17 i 0)), .int (nI (gN u.2.1 18 i 0)), .int (nI (gN u.2.1 19 i 0)), .int (nI (gN u.2.1 20 i 0))]) := rfl
theorem cn_9 (env : Ev) (u : St) (i : Nat) : cn env u 9 i = .inl (env.2.1 0, 4, .inl (fun j => nI (gN u.2.1 9 i j))) := rfl
theorem cn_10 (env : Ev) (u : St) (i : Nat) : cn env u 10 i = .inl (env.2.1 2, 12, .inl (fun j => b2i (gB u.2.1 10 i j))) := rfl
theorem cn_11 (env : Ev) (u : St) (i : Nat) : cn env u 11 i = .inl (env.2.1 1, 12, .inr (.inl (fun j => gJ u.2.1 11 i j))) := rfl
theorem cn_12 (env : Ev) (u : St) (i : Nat) : cn env u 12 i = .inl (env.2.1 1, 96, .inr (.inl (fun j => gJ u.2.1 12 i j))) := rfl
theorem cn_13 (env : Ev) (u : St) (i : Nat) : cn env u 13 i = .inl (env.2.1 2, 4, .inl (fun j => b2i (gB u.2.1 13 i j))) := rfl
theorem cn_14 (env : Ev) (u : St) (i : Nat) : cn env u 14 i = .inr (1, [.int (nI (gN u.2.1 21 i 0)), .ref (sA u 5 (gN u.2.1 22 i 0)), .ref (sA u 5 (gN u.2.1 23 i 0)), .ref (sA u 8 (gN u.2.1 24 i 0))]) := rfl
theorem cn_20 (env : Ev) (u : St) (i : Nat) : cn env u 20 i = .inr (6, [.int (nI (gN u.2.2 50 i 0)), .int (nI (gN u.2.2 51 i 0)), .int (nI (gN u.2.2 52 i 0)), .ref (sA u 24 0), .ref (sA u 25 0), .int (nI (gN u.2.2 55 i 0)), .ref (sA u 27 0), .ref (sA u 28 0), .ref (sA u 29 0), .ref (sA u 30 0), .ref (sA u 31 0), .ref (sA u 32 0), .ref (sA u 33 0), .ref (sA u 34 0), .ref (sA u 35 0), .ref (sA u 36 0), .ref (sA u 37 0), .ref (sA u 38 0), .ref (sA u 39 0), .ref (sA u 40 0), .ref (sA u 41 0), .ref (sA u 42 0), .int (nI (gN u.2.2 72 i 0)), .ref (sA u 44 0), .ref (sA u 45 0), .ref (sA u 46 0), .ref (sA u 47 0)]) := rfl
theorem cn_24 (env : Ev) (u : St) (i : Nat) : cn env u 24 i = .inl (env.2.1 0, 12, .inl (fun j => nI (gN u.2.2 53 i j))) := rfl
theorem cn_25 (env : Ev) (u : St) (i : Nat) : cn env u 25 i = .inl (env.2.1 2, 12, .inl (fun j => b2i (gB u.2.2 54 i j))) := rfl
theorem cn_27 (env : Ev) (u : St) (i : Nat) : cn env u 27 i = .inl (env.2.1 0, 150, .inl (fun j => nI (gN u.2.2 56 i j))) := rfl
theorem cn_28 (env : Ev) (u : St) (i : Nat) : cn env u 28 i = .inl (env.2.1 0, 150, .inl (fun j => nI (gN u.2.2 57 i j))) := rfl
theorem cn_29 (env : Ev) (u : St) (i : Nat) : cn env u 29 i = .inl (env.2.1 0, 600, .inl (fun j => nI (gN u.2.2 58 i j))) := rfl
theorem cn_30 (env : Ev) (u : St) (i : Nat) : cn env u 30 i = .inl (env.2.1 0, 150, .inl (fun j => nI (gN u.2.2 59 i j))) := rfl
theorem cn_31 (env : Ev) (u : St) (i : Nat) : cn env u 31 i = .inl (env.2.1 0, 150, .inl (fun j => nI (gN u.2.2 60 i j))) := rfl
theorem cn_32 (env : Ev) (u : St) (i : Nat) : cn env u 32 i = .inl (env.2.1 0, 150, .inl (fun j => nI (gN u.2.2 61 i j))) := rfl
theorem cn_33 (env : Ev) (u : St) (i : Nat) : cn env u 33 i = .inl (env.2.1 0, 150, .inl (fun j => nI (gN u.2.2 62 i j))) := rfl
theorem cn_34 (env : Ev) (u : St) (i : Nat) : cn env u 34 i = .inl (env.2.1 2, 600, .inl (fun j => b2i (gB u.2.2 63 i j))) := rfl
theorem cn_35 (env : Ev) (u : St) (i : Nat) : cn env u 35 i = .inl (env.2.1 2, 1800, .inl (fun j => b2i (gB u.2.2 64 i j))) := rfl
theorem cn_36 (env : Ev) (u : St) (i : Nat) : cn env u 36 i = .inl (env.2.1 1, 1800, .inr (.inl (fun j => gJ u.2.2 65 i j))) := rfl
theorem cn_37 (env : Ev) (u : St) (i : Nat) : cn env u 37 i = .inl (env.2.1 2, 1800, .inl (fun j => b2i (gB u.2.2 66 i j))) := rfl
theorem cn_38 (env : Ev) (u : St) (i : Nat) : cn env u 38 i = .inl (env.2.1 1, 14400, .inr (.inl (fun j => gJ u.2.2 67 i j))) := rfl
theorem cn_39 (env : Ev) (u : St) (i : Nat) : cn env u 39 i = .inl (env.2.1 0, 16, .inl (fun j => nI (gN u.2.2 68 i j))) := rfl
theorem cn_40 (env : Ev) (u : St) (i : Nat) : cn env u 40 i = .inl (env.2.1 0, 600, .inl (fun j => nI (gN u.2.2 69 i j))) := rfl
theorem cn_41 (env : Ev) (u : St) (i : Nat) : cn env u 41 i = .inl (env.2.1 0, 4, .inl (fun j => nI (gN u.2.2 70 i j))) := rfl
theorem cn_42 (env : Ev) (u : St) (i : Nat) : cn env u 42 i = .inl (env.2.1 0, 48, .inl (fun j => gI u.2.2 71 i j)) := rfl
theorem cn_44 (env : Ev) (u : St) (i : Nat) : cn env u 44 i = .inl (env.2.1 0, 2400, .inl (fun j => nI (gN u.2.2 73 i j))) := rfl
theorem cn_45 (env : Ev) (u : St) (i : Nat) : cn env u 45 i = .inl (env.2.1 0, 2400, .inl (fun j => nI (gN u.2.2 74 i j))) := rfl
theorem cn_46 (env : Ev) (u : St) (i : Nat) : cn env u 46 i = .inl (env.2.1 0, 2400, .inl (fun j => nI (gN u.2.2 75 i j))) := rfl
theorem cn_47 (env : Ev) (u : St) (i : Nat) : cn env u 47 i = .inl (env.2.1 0, 2400, .inl (fun j => nI (gN u.2.2 76 i j))) := rfl
def pool (env : Ev) (u : St) : va_W := (sK u).map (fun q => (sA u q.1 q.2, cn env u q.1 q.2))
theorem pool_at {env : Ev} {X : va_W} {u : St} {k i a : Nat} (h : At u k i a) : ∃ n : Nat, (X ++ pool env u)[n]? = some (a, cn env u k i) := by
  obtain ⟨hk, rfl⟩ := h
  exact List.getElem?_of_mem (List.mem_append_right _ (List.mem_map.mpr ⟨(k, i), hk, rfl⟩))
theorem pool_set {env : Ev} {A : Nat → Prop} {X : va_W} {u u' : St} {k i n a : Nat} {e0 e : va_E} (hD : va_D A (X ++ pool env u)) (hk : At u k i a) (hn : (X ++ pool env u)[n]? = some (a, e0)) (hs : sK u' = sK u) (ha : sA u' = sA u) (hc : ∀ k' i', cn env u' k' i' = if k' = k ∧ i' = i then e else cn env u k' i') : (X ++ pool env u).set n (a, e) = X ++ pool env u' := by
  obtain ⟨hk, rfl⟩ := hk
  obtain ⟨w, hw⟩ := List.getElem?_of_mem hk
  have hwl := (List.getElem?_eq_some_iff.mp hw).1
  have h1 : (pool env u)[w]? = some (sA u k i, cn env u k i) := by simp [pool, hw]
  have h2 : (X ++ pool env u)[X.length + w]? = some (sA u k i, cn env u k i) := by
    rw [List.getElem?_append_right (by omega), Nat.add_sub_cancel_left]
    exact h1
  have hnw := hD.1 n (X.length + w) _ _ hn h2 rfl
  subst hnw
  rw [List.set_append_right _ _ (by omega), Nat.add_sub_cancel_left]
  refine congrArg (fun l => X ++ l) ?_
  apply List.ext_getElem?
  intro j
  by_cases hj : j = w
  · subst hj
    rw [List.getElem?_set_self (by simp [pool]; exact hwl)]
    simp [pool, hs, ha, hw, hc]
  · rw [List.getElem?_set_ne (Ne.symm hj)]
    simp only [pool, hs, ha, List.getElem?_map]
    cases hq : (sK u)[j]? with
    | none => rfl
    | some q =>
      have hne : ¬ (q.1 = k ∧ q.2 = i) := fun hh => by
        have hq1 : q = (k, i) := Prod.ext hh.1 hh.2
        have h3 : (X ++ pool env u)[X.length + j]? = some (sA u k i, cn env u k i) := by
          rw [List.getElem?_append_right (by omega), Nat.add_sub_cancel_left]
          simp [pool, hq, hq1]
        have := hD.1 (X.length + j) (X.length + w) _ _ h3 h2 rfl
        omega
      simp [hc, hne]
/-- the world at a state -/
def Wd (env : Ev) (s0 : Nat) (X : va_W) (u : St) (U : State) (H : Heap) : Prop := va_P env.1 vwCl (X ++ pool env u) H ∧ va_K env.1 vwCl (tyL env) U ∧ va_D (fun q => s0 ≤ q) (X ++ pool env u)
def Zs (env : Ev) (s0 : Nat) (U : State) (H : Heap) : Prop := va_Z "java/util/ArrayList" "DEFAULTCAPACITY_EMPTY_ELEMENTDATA" "[Ljava/lang/Object;" (.ref env.2.2.1) (fun q => s0 ≤ q) U H ∧ va_T (.object "java/lang/Object") env.2.2.1 0 (fun _ => .null) (fun q => s0 ≤ q) U H ∧ va_Mi "[Ljava/lang/Object;" env.2.2.2 U ∧ va_Dc U
def Pr (env : Ev) (s0 : Nat) (X : va_W) (u : St) (U : State) : Prop := Wd env s0 X u U U.heap ∧ Tb U ∧ Zs env s0 U U.heap ∧ s0 ≤ U.heap.size
def Po (env : Ev) (s0 : Nat) (X : va_W) (u : St) (t : State) : Prop := Wd env s0 X u t t.heap
def Bd (env : Ev) (s0 : Nat) (X : va_W) (u : St) (s : State) (H : Heap) (locs : List Loc) : Prop := Wd env s0 X u s H ∧ va_S (fun q => s0 ≤ q) s.heap H locs ∧ Tb s ∧ Zs env s0 s s.heap ∧ s0 ≤ s.heap.size
theorem Bd.entry {env : Ev} {s0 : Nat} {X : va_W} {u : St} {s : State} (h : Pr env s0 X u s) : Bd env s0 X u s s.heap [] := ⟨h.1, va_S.rf, h.2.1, h.2.2⟩
theorem Wd.moved {env : Ev} {s0 : Nat} {X : va_W} {u : St} {s U : State} {H : Heap} (hv : s.vm.Alike U.vm) (h : Wd env s0 X u s H) : Wd env s0 X u U H := ⟨h.1, va_K.moved hv h.2.1, h.2.2⟩
theorem Bd.pr {env : Ev} {s0 : Nat} {X : va_W} {u : St} {s U : State} {H : Heap} {locs : List Loc} (h : Bd env s0 X u s H locs) (hU : U.heap = H) (hW : s.WarmedH U.vm) : Pr env s0 X u U := by
  subst hU
  exact ⟨h.1.moved hW.alike, h.2.2.1.warm hW, ⟨va_Z.moved hW.alike (va_Z.kept h.2.2.2.1.1 h.2.1.2.1), va_T.moved hW.alike (va_T.kept h.2.2.2.1.2.1 h.2.1.2.1), va_Mi.moved hW.alike h.2.2.2.1.2.2.1, va_Dc.moved hW.alike h.2.2.2.1.2.2.2⟩, Nat.le_trans h.2.2.2.2 h.2.1.1⟩
theorem Pr.blind {env : Ev} {s0 : Nat} {X : va_W} {u : St} {av : List Value} : FrameBlind (va_Pc av (Pr env s0 X u)) := by
  intro a U g mk h
  refine ⟨h.1, ?_⟩
  exact ⟨h.2.1.moved (Vm.Alike.refl U.vm), h.2.2.1.warm (s := U) (U := U.calling g mk a) (State.WarmedH.refl U), ⟨va_Z.moved (u := U) (U := U.calling g mk a) (Vm.Alike.refl U.vm) h.2.2.2.1.1, va_T.moved (u := U) (U := U.calling g mk a) (Vm.Alike.refl U.vm) h.2.2.2.1.2.1, va_Mi.moved (u := U) (U := U.calling g mk a) (Vm.Alike.refl U.vm) h.2.2.2.1.2.2.1, va_Dc.moved (u := U) (U := U.calling g mk a) (Vm.Alike.refl U.vm) h.2.2.2.1.2.2.2⟩, h.2.2.2.2⟩
theorem Bd.back {env : Ev} {s0 : Nat} {X : va_W} {u u' : St} {s t : State} {H H1 : Heap} {locs locs1 : List Loc} (h : Bd env s0 X u s H locs) (ht : t.heap = H1) (hv : s.vm.Alike t.vm) (hB : Po env s0 X u' t) (hS : va_S (fun q => s0 ≤ q) s.heap H1 locs1) : Bd env s0 X u' s H1 locs1 := by
  subst ht
  exact ⟨Wd.moved hv.symm hB, hS, h.2.2⟩
theorem Bd.po {env : Ev} {s0 : Nat} {X : va_W} {u : St} {s t : State} {H : Heap} {locs : List Loc} (h : Bd env s0 X u s H locs) (ht : t.heap = H) (hW : s.WarmedH t.vm) : Po env s0 X u t ∧ va_F (fun q => s0 ≤ q) s t := by
  subst ht
  exact ⟨h.1.moved hW.alike, h.2.1.F rfl⟩
theorem Bd.recv {env : Ev} {s0 : Nat} {X : va_W} {u : St} {s : State} {H : Heap} {locs : List Loc} {k i a ci : Nat} {fs : List Value} {q : vw_C} (h : Bd env s0 X u s H locs) (ha : At u k i a) (he : cn env u k i = .inr (ci, fs)) (hc : vwCl[ci]? = some q) : ∃ cell : Cell, H[a]? = some cell ∧ cell.vm.isStatics = false ∧ s.vm.findClass q.1 = some cell.cls := by
  obtain ⟨n, hn⟩ := pool_at (env := env) (X := X) ha
  rw [he] at hn
  exact va_recv h.1.2.1 h.1.1 hc hn

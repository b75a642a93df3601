section AY
variable {p : Program} {l : Launch} {e : Env} {R : Room} {s : State} {m : MethodId} {args : Array Value} {below : List Frame} {meth : Method} {c : Code} {H : Heap} {locs : List Loc} {cells slots : Nat} {Q : State → Prop} {cc : ByteArray} {nL : Nat} {own : String} {pc : Nat} {ls : Array Slot} {rest : List Value} {env : Ev} {s0 : Nat} {X : va_W} {u : St} {k i a b : Nat}
theorem w_alI (hF : CallFix p m c cc nL s args TT own) (hB : Bd env s0 X u s H locs) {n : Nat} {f : Nat → Int32} (ha : At u k i a) (he : cn env u k i = .inl (env.2.1 0, n, .inl f)) (hdg : decode cc pc = .ok (.arraylength, 1)) (kk : W p l e R s m args below meth c H locs cells slots Q (F0 m (pc + 1) ls (.int (nI n) :: rest))) : W p l e R s m args below meth c H locs cells slots Q (F0 m pc ls (.ref a :: rest)) := by
  obtain ⟨n0, h⟩ := pool_at (env := env) (X := X) ha
  rw [he] at h
  exact va_alen hF.1 hF.2.1 hB.1.2.1 hB.1.1 n0 0 h rfl rfl hdg kk
end AY
set_option maxHeartbeats 1000000 in
theorem cn_in (env : Ev) (u v : St) (h2 : v.2 = u.2) (hM : sM v = sM u) (hE : sE v = sE u) (hA3 : sA v 3 = sA u 3) (k' i' : Nat) (hk : k' = 2 ∨ k' = 5 ∨ k' = 6 ∨ k' = 7) (h5 : k' = 5 → sA v 6 i' = sA u 6 i' ∧ sA v 2 (3 + i') = sA u 2 (3 + i') ∧ sA v 7 i' = sA u 7 i') : cn env v k' i' = cn env u k' i' := by
  obtain ⟨⟨K, A, M, E⟩, c, m⟩ := u
  obtain ⟨⟨K', A', M', E'⟩, cm⟩ := v
  have h2 : cm = (c, m) := h2
  have hM : M' = M := hM
  have hE : E' = E := hE
  subst h2 hM hE
  have hA3 : A' 3 = A 3 := hA3
  have h5 : k' = 5 → A' 6 i' = A 6 i' ∧ A' 2 (3 + i') = A 2 (3 + i') ∧ A' 7 i' = A 7 i' := h5
  rcases hk with rfl | rfl | rfl | rfl
  · simp [cn, sA, sM, hA3]
  · obtain ⟨e1, e2, e3⟩ := h5 rfl; simp [cn, sA, e1, e2, e3]
  · rfl
  · rfl
def Lv (u : St) : Prop := ∀ k i, (k, i) ∈ sK u → k = 2 ∨ k = 5 ∨ k = 6 ∨ k = 7
theorem Lv.k {u : St} (h : Lv u) {k i a : Nat} (hk : k = 2 ∨ k = 5 ∨ k = 6 ∨ k = 7) : Lv (mkK u k i a) := by
  intro k' i' hm
  rcases mkK_m.mp hm with y | y
  · exact h _ _ y
  · rw [y.1]; exact hk
theorem cn_mkI {env : Ev} {u : St} {k i a : Nat} (hL : Lv u) (hk3 : k ≠ 3) (h : (k, i) ∉ sK u) (h5 : ∀ w, (5, w) ∈ sK u → (k = 6 → w ≠ i) ∧ (k = 7 → w ≠ i) ∧ (k = 2 → 3 + w ≠ i)) : ∀ k' i', (k', i') ∈ sK u → sA (mkK u k i a) k' i' = sA u k' i' ∧ cn env (mkK u k i a) k' i' = cn env u k' i' := by
  intro k' i' hm
  refine ⟨mkK_o ?_, cn_in env u (mkK u k i a) rfl rfl rfl (mkK_k (fun z => hk3 z.symm)) k' i' (hL _ _ hm) (fun e => ?_)⟩
  · by_cases z : k' = k
    · subst z; exact Or.inr (fun y => h (y ▸ hm))
    · exact Or.inl z
  · subst e
    have := h5 i' hm
    refine ⟨mkK_o ?_, mkK_o ?_, mkK_o ?_⟩ <;> omega
set_option maxHeartbeats 1000000 in
theorem cn_lo (env : Ev) (u v : St) (h2 : v.2 = u.2) (hM : sM v = sM u) (hE : sE v = sE u) (hA : ∀ k, k < 20 → sA v k = sA u k) (k' i' : Nat) (hk : k' ≠ 20) : cn env v k' i' = cn env u k' i' := by
  obtain ⟨⟨K, A, M, E⟩, c, m⟩ := u
  obtain ⟨⟨K', A', M', E'⟩, cm⟩ := v
  have h2 : cm = (c, m) := h2
  have hM : M' = M := hM
  have hE : E' = E := hE
  subst h2 hM hE
  have hA : ∀ k, k < 20 → A' k = A k := hA
  match k' with
  | 0 => simp [cn, sA, sM, hA 1 (by decide), hA 2 (by decide)]
  | 1 => simp [cn, sA, sM, hA 5 (by decide)]
  | 2 => simp [cn, sA, sM, hA 3 (by decide)]
  | 3 => rfl
  | 4 => simp [cn, sA, sM, hA 5 (by decide)]
  | 5 => simp [cn, sA, sM, hA 6 (by decide), hA 2 (by decide), hA 7 (by decide)]
  | 6 => rfl
  | 7 => rfl
  | 8 => simp [cn, sA, sM, hA 5 (by decide), hA 9 (by decide), hA 10 (by decide), hA 11 (by decide), hA 12 (by decide), hA 13 (by decide)]
  | 9 => rfl
  | 10 => rfl
  | 11 => rfl
  | 12 => rfl
  | 13 => rfl
  | 14 => simp [cn, sA, sM, hA 5 (by decide), hA 8 (by decide)]
  | 15 => rfl
  | 16 => rfl
  | 17 => rfl
  | 18 => rfl
  | 19 => rfl
  | 20 => exact absurd rfl hk
  | 21 => rfl
  | 22 => rfl
  | 23 => rfl
  | 24 => rfl
  | 25 => rfl
  | 26 => rfl
  | 27 => rfl
  | 28 => rfl
  | 29 => rfl
  | 30 => rfl
  | 31 => rfl
  | 32 => rfl
  | 33 => rfl
  | 34 => rfl
  | 35 => rfl
  | 36 => rfl
  | 37 => rfl
  | 38 => rfl
  | 39 => rfl
  | 40 => rfl
  | 41 => rfl
  | 42 => rfl
  | 43 => rfl
  | 44 => rfl
  | 45 => rfl
  | 46 => rfl
  | 47 => rfl
  | _ + 48 => rfl
theorem cn_mkM2 {env : Ev} {u : St} {k a : Nat} (hk : 20 ≤ k) (h : (k, 0) ∉ sK u) (h20 : (20, 0) ∉ sK u) (hz : ∀ i, (20, i) ∈ sK u → i = 0) : ∀ k' i', (k', i') ∈ sK u → sA (mkK u k 0 a) k' i' = sA u k' i' ∧ cn env (mkK u k 0 a) k' i' = cn env u k' i' := by
  intro k' i' hm
  refine ⟨mkK_o ?_, cn_lo env u (mkK u k 0 a) rfl rfl rfl (fun z hz => mkK_k (by omega)) k' i' (fun e => ?_)⟩
  · by_cases z : k' = k
    · subst z; exact Or.inr (fun y => h (y ▸ hm))
    · exact Or.inl z
  · subst e; have := hz i' hm; subst this; exact h20 hm
def cFill (c : Lg) (w : Nat) (x : Int32) : Nat → Lg
  | 0 => c
  | k + 1 => uI (cFill c w x k) 7 w k x
theorem cFill_s (c : Lg) (w : Nat) (x : Int32) (k : Nat) : cFill c w x (k + 1) = uI (cFill c w x k) 7 w k x := rfl
theorem cFill_N (c : Lg) (w : Nat) (x : Int32) : ∀ k, gN (cFill c w x k) = gN c
  | 0 => rfl
  | k + 1 => cFill_N c w x k
theorem cFill_B (c : Lg) (w : Nat) (x : Int32) : ∀ k, gB (cFill c w x k) = gB c
  | 0 => rfl
  | k + 1 => cFill_B c w x k
theorem cFill_J (c : Lg) (w : Nat) (x : Int32) : ∀ k, gJ (cFill c w x k) = gJ c
  | 0 => rfl
  | k + 1 => cFill_J c w x k
theorem cFill_I (c : Lg) (w : Nat) (x : Int32) (v j : Nat) : ∀ k, gI (cFill c w x k) 7 v j = if v = w ∧ j < k then x else gI c 7 v j
  | 0 => by simp [cFill]
  | k + 1 => by
    rw [cFill_s]
    show up3 (gI (cFill c w x k)) 7 w k x 7 v j = _
    unfold up3; rw [if_pos rfl]
    show (if v = w ∧ j = k then x else gI (cFill c w x k) 7 v j) = _
    rw [cFill_I c w x v j k]
    by_cases z : v = w
    · by_cases y : j = k
      · rw [if_pos ⟨z, y⟩, if_pos ⟨z, by omega⟩]
      · rw [if_neg (fun h => y h.2)]
        by_cases q : j < k
        · rw [if_pos ⟨z, q⟩, if_pos ⟨z, by omega⟩]
        · rw [if_neg (fun h => q h.2), if_neg (fun h => by omega)]
    · rw [if_neg (fun h => z h.1), if_neg (fun h => z h.1), if_neg (fun h => z h.1)]
/-- a site, as its constructor leaves it -/
def mkS (u : St) (a b6 b2 b7 w : Nat) : St := mkK (wC (mkK (mkK (mkK u 6 w b6) 2 (3 + w) b2) 7 w b7) (cFill u.2.1 w (-4) 12)) 5 w a
theorem mkS_m {u : St} {a b6 b2 b7 w k j : Nat} : (k, j) ∈ sK (mkS u a b6 b2 b7 w) ↔ (k, j) ∈ sK u ∨ (k = 6 ∧ j = w) ∨ (k = 2 ∧ j = 3 + w) ∨ (k = 7 ∧ j = w) ∨ (k = 5 ∧ j = w) := by
  unfold mkS
  rw [mkK_m]
  show ((k, j) ∈ sK (mkK (mkK (mkK u 6 w b6) 2 (3 + w) b2) 7 w b7) ∨ _) ↔ _
  rw [mkK_m, mkK_m, mkK_m]
  constructor
  · rintro ((((h | h) | h) | h) | h)
    · exact Or.inl h
    all_goals exact Or.inr (by omega)
  · rintro (h | h | h | h | h)
    · exact Or.inl (Or.inl (Or.inl (Or.inl h)))
    all_goals simp [h]
theorem mkS_A3 (u : St) (a b6 b2 b7 w : Nat) : sA (mkS u a b6 b2 b7 w) 3 = sA u 3 := by
  unfold mkS
  rw [mkK_k (by decide)]
  show sA (mkK (mkK (mkK u 6 w b6) 2 (3 + w) b2) 7 w b7) 3 = _
  rw [mkK_k (by decide), mkK_k (by decide), mkK_k (by decide)]
theorem mkS_o {u : St} {a b6 b2 b7 w k i : Nat} (h : ¬ ((k = 6 ∧ i = w) ∨ (k = 2 ∧ i = 3 + w) ∨ (k = 7 ∧ i = w) ∨ (k = 5 ∧ i = w))) : sA (mkS u a b6 b2 b7 w) k i = sA u k i := by
  unfold mkS
  rw [mkK_o (by omega)]
  show sA (mkK (mkK (mkK u 6 w b6) 2 (3 + w) b2) 7 w b7) k i = _
  rw [mkK_o (by omega), mkK_o (by omega), mkK_o (by omega)]
theorem Lv.s {u : St} (h : Lv u) {a b6 b2 b7 w : Nat} : Lv (mkS u a b6 b2 b7 w) := by
  intro k i hm
  rcases mkS_m.mp hm with y | y
  · exact h _ _ y
  · omega
/-- the state before anything is made -/
def m00 : Lg := (fun _ _ _ => 0, fun _ _ _ => false, fun _ _ _ => 0, fun _ _ _ => 0)
def c00 : Lg := uN (uN m00 0 0 0 3) 1 0 0 1
def u00 (env : Ev) (m : Lg) : St := (([], fun k i => if k = 3 ∧ i = 0 then env.2.2.1 else 0, fun f i => if f = 3 ∧ i = 0 then 1 else 0, fun _ _ => none), c00, m)
def cInit : Lg := cFill (cFill (cFill (cFill c00 0 (-4) 12) 1 (-4) 12) 2 (-4) 12) 3 (-4) 12


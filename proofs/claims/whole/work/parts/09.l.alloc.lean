section AX
variable {p : Program} {l : Launch} {e : Env} {R : Room} {s : State} {m : MethodId} {args : Array Value} {below : List Frame} {meth : Method} {c : Code} {H : Heap} {locs : List Loc} {cells slots : Nat} {Q : State → Prop} {cc : ByteArray} {nL : Nat} {own : String} {pc : Nat} {ls : Array Slot} {rest : List Value} {env : Ev} {s0 : Nat} {X : va_W} {u : St} {k i a b : Nat}
theorem w_castI {n index : Nat} {f : Nat → Int32} (hF : CallFix p m c cc nL s args TT own) (hB : Bd env s0 ((a, .inl (env.2.1 0, n, .inl f)) :: X) u s H locs) (hl : Cond.classLink own index "[I" ∈ TT) (hdg : decode cc pc = .ok (.checkcast index, 3)) (kk : W p l e R s m args below meth c H locs cells slots Q (F0 m (pc + 3) ls (.ref a :: rest))) : W p l e R s m args below meth c H locs cells slots Q (F0 m pc ls (.ref a :: rest)) :=
  va_castA hF.1 hF.2.1 hF.2.2.2.1 (hF.2.2.2.2 _ hl) hB.1.1 0 rfl (va_nm_int (hB.1.2.1.2 0 _ rfl).2) hdg kk
theorem w_newS (hF : CallFix p m c cc nL s args TT own) (hB : Bd env s0 X u s H locs) {n index : Nat} (hl : Cond.classLink own index "FarStore$Site" ∈ TT) (hov : Cond.arrayOver (.object "FarStore$Site") ∈ TT) (hn : n ≤ 8192) (hc : cells + 1 ≤ R.cells) (hs : slots + n ≤ R.slots) (hdg : decode cc pc = .ok (.anewarray index, 3)) (kk : ∀ q H, Bd env s0 ((q, .inl (env.2.1 3, n, .inr (.inr (.inr (.inr (fun _ => none)))))) :: X) u s H locs → W p l e R s m args below meth c H locs (cells + 1) (slots + n) Q (F0 m (pc + 3) ls (.ref q :: rest))) : W p l e R s m args below meth c H locs cells slots Q (F0 m pc ls (.int (nI n) :: rest)) := by
  refine va_newq hF.1 hF.2.1 hF.2.2.2.1 (hF.2.2.2.2 _ hl) (va_AO.of (hF.2.2.2.2 _ hov)) hB.1.2.1 hB.1.1 hB.1.2.2 hB.2.1 (fun q h => Nat.le_trans hB.2.2.2.2 h) (nI_pos (by omega)) (nI_clamp (by omega)) (by omega) hc hs hdg (fun q cA H1 hK hP hD hS => ?_)
  have e : cA = env.2.1 3 := by
    have h1 := va_nmO (hK.2 5 _ rfl).2 rfl
    have h2 := va_nmO (hB.1.2.1.2 3 _ rfl).2 rfl
    rw [h1] at h2
    exact Option.some.inj h2
  subst e
  exact kk q H1 (Bd.front hP hB.1.2.1 hD hS hB.2.2)
theorem sw_get {x y : Nat × va_E} {ws : va_W} (p : Nat) (z : Nat × va_E) (h : (y :: x :: ws)[p]? = some z) : (x :: y :: ws)[if p = 0 then 1 else if p = 1 then 0 else p]? = some z := by
  match p, h with
  | 0, h => exact h
  | 1, h => exact h
  | n + 2, h => rw [if_neg (by omega), if_neg (by omega)]; exact h
theorem sw_inj (p q : Nat) (h : (if p = 0 then 1 else if p = 1 then 0 else p) = (if q = 0 then 1 else if q = 1 then 0 else q)) : p = q := by
  split at h <;> split at h <;> (try split at h) <;> (try split at h) <;> omega
theorem Bd.swap {x y : Nat × va_E} (hB : Bd env s0 (x :: y :: X) u s H locs) : Bd env s0 (y :: x :: X) u s H locs :=
  ⟨⟨re_P (ws := x :: y :: (X ++ pool env u)) (ws' := y :: x :: (X ++ pool env u)) _ (fun p z h => sw_get p z h) hB.1.1, hB.1.2.1, re_D (ws := x :: y :: (X ++ pool env u)) (ws' := y :: x :: (X ++ pool env u)) _ (fun p z h => sw_get p z h) (fun p q _ _ h => sw_inj p q h) hB.1.2.2⟩, hB.2⟩
/-- a site into the row of places, which stands second in X -/
theorem w_astS {x : Nat × va_E} {f : Nat → Option Nat} {n j v : Nat} (hF : CallFix p m c cc nL s args TT own) (hB : Bd env s0 (x :: (a, .inl (env.2.1 3, n, .inr (.inr (.inr (.inr f))))) :: X) u s H locs) (hv : At u 5 i v) (hj : j < n) (hn : n ≤ 4096) (hdg : decode cc pc = .ok (.aastore, 1)) (kk : ∀ H locs, Bd env s0 (x :: (a, .inl (env.2.1 3, n, .inr (.inr (.inr (.inr (va_up f j (some v))))))) :: X) u s H locs → W p l e R s m args below meth c H locs cells slots Q (F0 m (pc + 1) ls (rest))) : W p l e R s m args below meth c H locs cells slots Q (F0 m pc ls (.ref v :: .int (nI j) :: .ref a :: rest)) := by
  obtain ⟨n0, hn0⟩ := pool_at (env := env) (X := X) hv
  rw [cn_5] at hn0
  refine va_astq hF.1 hF.2.1 hB.1.2.1 hB.1.1 hB.1.2.2 hB.2.1 1 3 (n0 + 2) 2 rfl rfl hn0 rfl (vp_in_nI hj (by omega)) hdg (fun H1 locs1 hP hD hS => ?_)
  rw [nI_clamp (by omega)] at hP hD
  exact kk H1 locs1 ⟨⟨hP, hB.1.2.1, hD⟩, hS, hB.2.2⟩
theorem Bd.head {q : Nat} {y y' : va_E} (h : ∀ H, va_at env.1 vwCl (q, y) H → va_at env.1 vwCl (q, y') H) (hB : Bd env s0 ((q, y) :: X) u s H locs) : Bd env s0 ((q, y') :: X) u s H locs := by
  refine ⟨⟨?_, hB.1.2.1, ?_⟩, hB.2⟩
  · intro p z hz
    match p, hz with
    | 0, hz =>
      have e : (q, y') = z := Option.some.inj hz
      subst e; exact h _ (hB.1.1 0 _ rfl)
    | p + 1, hz => exact hB.1.1 (p + 1) z hz
  · have hb := hB.1.2.2
    refine ⟨?_, ?_⟩
    · intro i j p z hp hz e
      have g : ∀ (i : Nat) (p : Nat × va_E), ((q, y') :: (X ++ pool env u))[i]? = some p → ∃ p' : Nat × va_E, ((q, y) :: (X ++ pool env u))[i]? = some p' ∧ p'.1 = p.1 := by
        intro i p hp
        match i, hp with
        | 0, hp => have e : (q, y') = p := Option.some.inj hp; subst e; exact ⟨(q, y), rfl, rfl⟩
        | i + 1, hp => exact ⟨p, hp, rfl⟩
      obtain ⟨p', g1, g2⟩ := g i p hp
      obtain ⟨z', g3, g4⟩ := g j z hz
      exact hb.1 i j p' z' g1 g3 (by rw [g2, g4]; exact e)
    · intro k z hz
      match k, hz with
      | 0, hz => have e : (q, y') = z := Option.some.inj hz; subst e; exact hb.2 0 (q, y) rfl
      | k + 1, hz => exact hb.2 (k + 1) z hz
theorem Bd.row {q n : Nat} {cA : ClassId} {f f' : Nat → Option Nat} (h : ∀ j, j < n → f j = f' j) (hB : Bd env s0 ((q, .inl (cA, n, .inr (.inr (.inr (.inr f))))) :: X) u s H locs) : Bd env s0 ((q, .inl (cA, n, .inr (.inr (.inr (.inr f'))))) :: X) u s H locs := by
  refine Bd.head (fun H hH => ?_) hB
  have hH : H[q]? = some (arrV cA n (fun j => va_rf (f j))) := hH
  show H[q]? = some (arrV cA n (fun j => va_rf (f' j)))
  rw [hH]; unfold arrV
  rw [show (Array.ofFn (n := n) fun j => va_rf (f j.val)) = (Array.ofFn (n := n) fun j => va_rf (f' j.val)) from congrArg Array.ofFn (funext fun j => by rw [h j.val j.isLt])]
end AX
/-! a new key -/
def mkK (u : St) (k i a : Nat) : St := ((sK u ++ [(k, i)], up2 (sA u) k i a, sM u, sE u), u.2)
theorem mkK_A (u : St) (k i a : Nat) : sA (mkK u k i a) k i = a := by
  show up2 (sA u) k i a k i = a
  unfold up2; simp
theorem mkK_o {u : St} {k i a k' i' : Nat} (h : k' ≠ k ∨ i' ≠ i) : sA (mkK u k i a) k' i' = sA u k' i' := by
  show up2 (sA u) k i a k' i' = _
  unfold up2; by_cases z : k' = k
  · subst z; rcases h with h | h
    · exact absurd rfl h
    · simp [h]
  · rw [if_neg z]
theorem mkK_k {u : St} {k i a k' : Nat} (h : k' ≠ k) : sA (mkK u k i a) k' = sA u k' := by
  show up2 (sA u) k i a k' = _
  unfold up2; rw [if_neg h]
theorem mkK_m {u : St} {k i a k' i' : Nat} : (k', i') ∈ sK (mkK u k i a) ↔ (k', i') ∈ sK u ∨ (k' = k ∧ i' = i) := by
  show (k', i') ∈ sK u ++ [(k, i)] ↔ _
  rw [List.mem_append, List.mem_singleton, Prod.mk.injEq]
theorem Kp.k {u : St} {k i a : Nat} (h : (k, i) ∉ sK u) : Kp u (mkK u k i a) := by
  intro k' i' _ hm
  refine ⟨mkK_m.mpr (Or.inl hm), mkK_o ?_⟩
  by_cases z : k' = k
  · subst z; exact Or.inr (fun y => h (y ▸ hm))
  · exact Or.inl z
theorem mkK_n {u : St} {k i a k' i' : Nat} (h : (k', i') ∉ sK u) (hne : k' ≠ k ∨ i' ≠ i) : (k', i') ∉ sK (mkK u k i a) := by
  intro z; rcases mkK_m.mp z with y | y
  · exact h y
  · omega
set_option maxHeartbeats 1000000 in
theorem cn_sA (env : Ev) (u v : St) (h2 : v.2 = u.2) (hM : sM v = sM u) (hE : sE v = sE u) (k' i' : Nat) (hA : ∀ k, k < 8 ∨ 14 ≤ k → sA v k = sA u k) (h8 : k' = 8 → ∀ k, 9 ≤ k → k ≤ 13 → sA v k i' = sA u k i') (h14 : k' = 14 → sA v 8 (gN u.2.1 24 i' 0) = sA u 8 (gN u.2.1 24 i' 0)) : cn env v k' i' = cn env u k' i' := by
  obtain ⟨⟨K, A, M, E⟩, c, m⟩ := u
  obtain ⟨⟨K', A', M', E'⟩, cm⟩ := v
  have h2 : cm = (c, m) := h2
  have hM : M' = M := hM
  have hE : E' = E := hE
  subst h2 hM hE
  have hA : ∀ k, k < 8 ∨ 14 ≤ k → A' k = A k := hA
  have h8 : k' = 8 → ∀ k, 9 ≤ k → k ≤ 13 → A' k i' = A k i' := h8
  have h14 : k' = 14 → A' 8 (gN c 24 i' 0) = A 8 (gN c 24 i' 0) := h14
  match k' with
  | 0 => simp [cn, sA, sM, hA 1 (by decide), hA 2 (by decide)]
  | 1 => simp [cn, sA, sM, hA 5 (by decide)]
  | 2 => simp [cn, sA, sM, hA 3 (by decide)]
  | 3 => rfl
  | 4 => simp [cn, sA, sM, hA 5 (by decide)]
  | 5 => simp [cn, sA, sM, hA 6 (by decide), hA 2 (by decide), hA 7 (by decide)]
  | 6 => rfl
  | 7 => rfl
  | 8 => simp [cn, sA, hA 5 (by decide), h8 rfl 9 (by decide) (by decide), h8 rfl 10 (by decide) (by decide), h8 rfl 11 (by decide) (by decide), h8 rfl 12 (by decide) (by decide), h8 rfl 13 (by decide) (by decide)]
  | 9 => rfl
  | 10 => rfl
  | 11 => rfl
  | 12 => rfl
  | 13 => rfl
  | 14 => simp [cn, sA, hA 5 (by decide), h14 rfl]
  | 15 => rfl
  | 16 => rfl
  | 17 => rfl
  | 18 => rfl
  | 19 => rfl
  | 20 => simp [cn, sA, hA 24 (by decide), hA 25 (by decide), hA 27 (by decide), hA 28 (by decide), hA 29 (by decide), hA 30 (by decide), hA 31 (by decide), hA 32 (by decide), hA 33 (by decide), hA 34 (by decide), hA 35 (by decide), hA 36 (by decide), hA 37 (by decide), hA 38 (by decide), hA 39 (by decide), hA 40 (by decide), hA 41 (by decide), hA 42 (by decide), hA 44 (by decide), hA 45 (by decide), hA 46 (by decide), hA 47 (by decide)]
  | 21 => rfl
  | 22 => rfl
  | 23 => rfl
  | 24 => rfl
  | 25 => rfl
  | 26 => rfl
  | 27 => rfl
  | 28 => rfl
  | 29 => rfl
  | 30 => rfl
  | 31 => rfl
  | 32 => rfl
  | 33 => rfl
  | 34 => rfl
  | 35 => rfl
  | 36 => rfl
  | 37 => rfl
  | 38 => rfl
  | 39 => rfl
  | 40 => rfl
  | 41 => rfl
  | 42 => rfl
  | 43 => rfl
  | 44 => rfl
  | 45 => rfl
  | 46 => rfl
  | 47 => rfl
  | _ + 48 => rfl
theorem cn_mkK {env : Ev} {u : St} {k i a : Nat} (hk : 9 ≤ k ∧ k ≤ 13) (h : (k, i) ∉ sK u) (h8 : (8, i) ∉ sK u) : ∀ k' i', (k', i') ∈ sK u → sA (mkK u k i a) k' i' = sA u k' i' ∧ cn env (mkK u k i a) k' i' = cn env u k' i' := by
  intro k' i' hm
  refine ⟨((Kp.k (a := a) h) k' i' · hm |>.2) |> fun f => ?_, cn_sA env u (mkK u k i a) rfl rfl rfl k' i' (fun z hz => mkK_k (by omega)) (fun e z _ _ => mkK_o (Or.inr (fun y => h8 (by rw [← y, ← e]; exact hm)))) (fun _ => by rw [mkK_k (by omega)])⟩
  refine mkK_o ?_
  by_cases z : k' = k
  · subst z; exact Or.inr (fun y => h (y ▸ hm))
  · exact Or.inl z
theorem cn_mkK8 {env : Ev} {u : St} {i a : Nat} (h8 : (8, i) ∉ sK u) (hms : ∀ q, (14, q) ∈ sK u → gN u.2.1 24 q 0 ≠ i) : ∀ k' i', (k', i') ∈ sK u → sA (mkK u 8 i a) k' i' = sA u k' i' ∧ cn env (mkK u 8 i a) k' i' = cn env u k' i' := by
  intro k' i' hm
  refine ⟨mkK_o ?_, cn_sA env u (mkK u 8 i a) rfl rfl rfl k' i' (fun z hz => mkK_k (by omega)) (fun _ z _ _ => mkK_o (Or.inl (by omega))) (fun e => mkK_o (Or.inr (hms i' (by rw [← e]; exact hm))))⟩
  by_cases z : k' = 8
  · subst z; exact Or.inr (fun y => h8 (y ▸ hm))
  · exact Or.inl z
/-! transactions -/
def cTx (c : Lg) (t w : Nat) : Lg := ((fun f => if f = 9 then (fun i j => if i = t then gN c 6 w j else gN c 9 i j) else up3 (gN c) 26 t 0 w f), gB c, gI c, gJ c)
theorem cTx_N (c : Lg) (t w : Nat) {n : Nat} (h : n ≠ 9 ∧ n ≠ 26) : gN (cTx c t w) n = gN c n := by
  show (if n = 9 then _ else up3 (gN c) 26 t 0 w n) = _
  rw [if_neg h.1]; unfold up3; rw [if_neg h.2]
theorem cTx_9 (c : Lg) (t w i j : Nat) : gN (cTx c t w) 9 i j = if i = t then gN c 6 w j else gN c 9 i j := rfl
theorem cTx_26 (c : Lg) (t w i j : Nat) : gN (cTx c t w) 26 i j = if i = t ∧ j = 0 then w else gN c 26 i j := by
  show up3 (gN c) 26 t 0 w 26 i j = _
  unfold up3; rw [if_pos rfl]
def Df (c : Lg) (t : Nat) : Prop := (∀ j, gB c 10 t j = false) ∧ (∀ j, gJ c 11 t j = 0) ∧ (∀ j, gJ c 12 t j = 0) ∧ (∀ j, gB c 13 t j = false) ∧ gB c 14 t 0 = false ∧ gN c 15 t 0 = 0 ∧ gN c 16 t 0 = 0 ∧ gN c 17 t 0 = 0 ∧ gN c 18 t 0 = 0 ∧ gN c 19 t 0 = 0 ∧ gN c 20 t 0 = 0
set_option maxHeartbeats 1000000 in
theorem cn_tx (env : Ev) (u : St) (t w : Nat) (h8 : (8, t) ∉ sK u) (h9 : (9, t) ∉ sK u) : ∀ k' i', (k', i') ∈ sK u → cn env (wC u (cTx u.2.1 t w)) k' i' = cn env u k' i' := by
  intro k' i' hm
  match k' with
  | 8 =>
    have hz : i' ≠ t := fun z => h8 (z ▸ hm)
    have e : gN (cTx u.2.1 t w) 26 i' 0 = gN u.2.1 26 i' 0 := by rw [cTx_26, if_neg (fun h => hz h.1)]
    rw [cn_8, cn_8]
    show (.inr (4, [.int (nI i'), .ref (sA u 5 (gN (cTx u.2.1 t w) 26 i' 0)), _, _, _, _, _, _, _, _, _, _, _, _]) : va_E) = _
    rw [e]; rfl
  | 9 =>
    have hz : i' ≠ t := fun z => h9 (z ▸ hm)
    rw [cn_9, cn_9]
    show (.inl (env.2.1 0, 4, .inl (fun j => nI (gN (cTx u.2.1 t w) 9 i' j))) : va_E) = _
    simp only [cTx_9, if_neg hz]
  | 0 => rfl
  | 1 => rfl
  | 2 => rfl
  | 3 => rfl
  | 4 => rfl
  | 5 => rfl
  | 6 => rfl
  | 7 => rfl
  | 10 => rfl
  | 11 => rfl
  | 12 => rfl
  | 13 => rfl
  | 14 => rfl
  | 15 => rfl
  | 16 => rfl
  | 17 => rfl
  | 18 => rfl
  | 19 => rfl
  | 20 => rfl
  | 21 => rfl
  | 22 => rfl
  | 23 => rfl
  | 24 => rfl
  | 25 => rfl
  | 26 => rfl
  | 27 => rfl
  | 28 => rfl
  | 29 => rfl
  | 30 => rfl
  | 31 => rfl
  | 32 => rfl
  | 33 => rfl
  | 34 => rfl
  | 35 => rfl
  | 36 => rfl
  | 37 => rfl
  | 38 => rfl
  | 39 => rfl
  | 40 => rfl
  | 41 => rfl
  | 42 => rfl
  | 43 => rfl
  | 44 => rfl
  | 45 => rfl
  | 46 => rfl
  | 47 => rfl
  | _ + 48 => rfl
def mkX (u : St) (a b9 b10 b11 b12 b13 t w : Nat) : St := mkK (mkK (mkK (mkK (mkK (mkK (wC u (cTx u.2.1 t w)) 10 t b10) 11 t b11) 12 t b12) 13 t b13) 9 t b9) 8 t a
theorem mkX_2 (u : St) (a b9 b10 b11 b12 b13 t w : Nat) : (mkX u a b9 b10 b11 b12 b13 t w).2 = (cTx u.2.1 t w, u.2.2) := rfl
theorem mkX_m {u : St} {a b9 b10 b11 b12 b13 t w k j : Nat} : (k, j) ∈ sK (mkX u a b9 b10 b11 b12 b13 t w) ↔ (k, j) ∈ sK u ∨ (8 ≤ k ∧ k ≤ 13 ∧ j = t) := by
  unfold mkX; simp only [mkK_m]
  show ((((((((k, j) ∈ sK u ∨ _) ∨ _) ∨ _) ∨ _) ∨ _) ∨ _)) ↔ _
  constructor
  · rintro ((((((h | h) | h) | h) | h) | h) | h)
    · exact Or.inl h
    all_goals exact Or.inr (by omega)
  · rintro (h | ⟨h1, h2, h3⟩)
    · exact Or.inl (Or.inl (Or.inl (Or.inl (Or.inl (Or.inl h)))))
    · rcases (show k = 8 ∨ k = 9 ∨ k = 10 ∨ k = 11 ∨ k = 12 ∨ k = 13 by omega) with z | z | z | z | z | z <;> simp [z, h3]
theorem mkX_A {u : St} {a b9 b10 b11 b12 b13 t w k j : Nat} (h : ¬ (8 ≤ k ∧ k ≤ 13 ∧ j = t)) : sA (mkX u a b9 b10 b11 b12 b13 t w) k j = sA u k j := by
  unfold mkX
  rw [mkK_o (by omega), mkK_o (by omega), mkK_o (by omega), mkK_o (by omega), mkK_o (by omega), mkK_o (by omega)]; rfl
theorem mkX_8 (u : St) (a b9 b10 b11 b12 b13 t w : Nat) : sA (mkX u a b9 b10 b11 b12 b13 t w) 8 t = a := mkK_A _ _ _ _
def cBeg (c : Lg) (w : Nat) : Lg := uN (cTx c (gN c 3 1 0) w) 3 1 0 (gN c 3 1 0 + 1)
theorem SX.fr {env : Ev} {u : St} (hZ : SZ env u) : ∀ k, 8 ≤ k → k ≤ 13 → (k, gN u.2.1 3 1 0) ∉ sK u := by
  intro k h1 h2 hm
  by_cases z : k = 8
  · subst z; have := (hZ.1.tx hm).1; omega
  · have := hZ.2.2 k _ (by omega) (by omega) hm; omega
theorem SZ.mkXa {env : Ev} {u : St} {a b9 b10 b11 b12 b13 w : Nat} (hZ : SZ env u) : PI env (mkX u a b9 b10 b11 b12 b13 (gN u.2.1 3 1 0) w) ∧ (∀ j y, j < gN (mkX u a b9 b10 b11 b12 b13 (gN u.2.1 3 1 0) w).2.1 3 1 0 → sE (mkX u a b9 b10 b11 b12 b13 (gN u.2.1 3 1 0) w) (sM (mkX u a b9 b10 b11 b12 b13 (gN u.2.1 3 1 0) w) 2 1) j = some y → Obj (mkX u a b9 b10 b11 b12 b13 (gN u.2.1 3 1 0) w) y) ∧ Obj (mkX u a b9 b10 b11 b12 b13 (gN u.2.1 3 1 0) w) a ∧ Kp u (mkX u a b9 b10 b11 b12 b13 (gN u.2.1 3 1 0) w) ∧ gN (mkX u a b9 b10 b11 b12 b13 (gN u.2.1 3 1 0) w).2.1 3 1 0 = gN u.2.1 3 1 0 := by
  have hfr := SX.fr hZ
  have e3 : gN (cTx u.2.1 (gN u.2.1 3 1 0) w) 3 = gN u.2.1 3 := cTx_N _ _ _ (by decide)
  have hK : Kp u (mkX u a b9 b10 b11 b12 b13 (gN u.2.1 3 1 0) w) := by
    intro k i _ h
    refine ⟨mkX_m.mpr (Or.inl h), mkX_A ?_⟩
    rintro ⟨h1, h2, h3⟩
    exact hfr k h1 h2 (h3 ▸ h)
  refine ⟨hZ.1.pi.mk (fun f hf => rfl) (fun z => mkX_A (by omega)) (fun k j hk => ?_) e3, fun j y hj hy => ?_, ⟨8, gN u.2.1 3 1 0, Or.inr (Or.inl rfl), mkX_m.mpr (Or.inr (by omega)), mkX_8 _ _ _ _ _ _ _ _ _⟩, hK, by show gN (cTx u.2.1 _ w) 3 1 0 = _; rw [e3]⟩
  · rw [mkX_m]; constructor
    · rintro (h | h)
      · exact h
      · omega
    · exact Or.inl
  · have hj : j < gN (cTx u.2.1 (gN u.2.1 3 1 0) w) 3 1 0 := hj
    rw [e3] at hj
    exact Obj.kp hK (hZ.1.objs (i := 1) (by decide) j y hj hy)
set_option maxHeartbeats 1000000 in
theorem SZ.tx {env : Ev} {u : St} {a b9 b10 b11 b12 b13 w mm q' : Nat} (hZ : SZ env u) (hw : w < 4) (hn : gN u.2.1 3 1 0 < 150) : ∃ ph, adF (vM (mkX u a b9 b10 b11 b12 b13 (gN u.2.1 3 1 0) w) 1 1 mm) 1 a q' = (ph, cBeg u.2.1 w, u.2.2) ∧ SZ env (ph, cBeg u.2.1 w, u.2.2) ∧ Kp u (ph, cBeg u.2.1 w, u.2.2) := by
  have hfr := SX.fr hZ
  obtain ⟨hI, hX⟩ := hZ
  have e3 : gN (cTx u.2.1 (gN u.2.1 3 1 0) w) 3 = gN u.2.1 3 := cTx_N _ _ _ (by decide)
  have hP : PI env (vM (mkX u a b9 b10 b11 b12 b13 (gN u.2.1 3 1 0) w) 1 1 mm) := by
    refine hI.pi.mk (fun f hf => ?_) (fun z => ?_) (fun k j hk => ?_) e3
    · show up2 (sM u) 1 1 mm f = _; unfold up2; rw [if_neg hf]
    · show sA (mkX u a b9 b10 b11 b12 b13 (gN u.2.1 3 1 0) w) 3 z = _
      exact mkX_A (by omega)
    · show (k, j) ∈ sK (mkX u a b9 b10 b11 b12 b13 (gN u.2.1 3 1 0) w) ↔ _
      rw [mkX_m]; constructor
      · rintro (h | h)
        · exact h
        · omega
      · exact Or.inl
  have hAF := AF (b := a) (q := q') hP (i := 1) (by decide) (by show gN (cTx u.2.1 _ w) 3 1 0 ≤ _; rw [e3]; omega)
  generalize adF (vM (mkX u a b9 b10 b11 b12 b13 (gN u.2.1 3 1 0) w) 1 1 mm) 1 a q' = v at hAF ⊢
  obtain ⟨e, k1, k2, s1, s2, s3, pi⟩ := hAF
  obtain ⟨ph, v2⟩ := v
  have e : v2 = (cBeg u.2.1 w, u.2.2) := by
    rw [show v2 = (uN (cTx u.2.1 (gN u.2.1 3 1 0) w) 3 1 0 (gN (cTx u.2.1 (gN u.2.1 3 1 0) w) 3 1 0 + 1), u.2.2) from e, e3]; rfl
  subst e
  refine ⟨ph, rfl, ?_⟩
  generalize hv : ((ph, cBeg u.2.1 w, u.2.2) : St) = v at *
  have ev : v.2.1 = cBeg u.2.1 w := by rw [← hv]
  generalize hT : gN u.2.1 3 1 0 = T at *
  have hk : ∀ k j, k ≠ 3 → ((k, j) ∈ sK v ↔ (k, j) ∈ sK u ∨ (8 ≤ k ∧ k ≤ 13 ∧ j = T)) := by
    intro k j h
    rw [k1 k j h]; exact mkX_m (a := a)
  have hk' : ∀ k j, k ≠ 3 → ¬ (8 ≤ k ∧ k ≤ 13) → ((k, j) ∈ sK v ↔ (k, j) ∈ sK u) := by
    intro k j h h'; rw [hk k j h]
    constructor
    · rintro (y | y)
      · exact y
      · exact absurd ⟨y.1, y.2.1⟩ h'
    · exact Or.inl
  have hA : ∀ k j, k ≠ 3 → ¬ (8 ≤ k ∧ k ≤ 13 ∧ j = T) → sA v k j = sA u k j := by
    intro k j h h'
    rw [k2 k j h]
    exact mkX_A h'
  have hAn : sA v 8 T = a := by
    rw [k2 8 _ (by decide)]
    exact mkX_8 _ _ _ _ _ _ _ _ _
  have n3 : ∀ i, gN v.2.1 3 i 0 = if i = 1 then T + 1 else gN u.2.1 3 i 0 := by
    intro i; rw [ev]; unfold cBeg; rw [gN_uN, hT, e3]; simp
  have nn : ∀ n, (n ≠ 3 ∧ n ≠ 9 ∧ n ≠ 26) → gN v.2.1 n = gN u.2.1 n := fun n h => by rw [ev]; unfold cBeg; rw [gN_f _ _ _ _ _ h.1, cTx_N _ _ _ h.2]
  have n0 := nn 0 (by decide); have n25 := nn 25 (by decide); have n22 := nn 22 (by decide); have n23 := nn 23 (by decide); have n24 := nn 24 (by decide); have n30 := nn 30 (by decide); have n31 := nn 31 (by decide); have n32 := nn 32 (by decide)
  have n26 : ∀ j, gN v.2.1 26 j 0 = if j = T then w else gN u.2.1 26 j 0 := by
    intro j; rw [ev]; unfold cBeg; rw [gN_f _ _ _ _ _ (by decide), hT, cTx_26]; simp
  have wn : gN (vM (mkX u a b9 b10 b11 b12 b13 T w) 1 1 mm).2.1 3 1 0 = T := by show gN (cTx u.2.1 _ w) 3 1 0 = _; rw [e3]; exact hT
  rw [wn] at s2 s3
  have hKp : Kp u v := by
    intro k i h hm
    refine ⟨(hk k i h).mpr (Or.inl hm), hA k i h ?_⟩
    rintro ⟨h1, h2, h3⟩
    exact hfr k h1 h2 (h3 ▸ hm)
  have g1 : ∀ j, j < T → sA v 8 j = sA u 8 j := fun j hj => hA 8 j (by decide) (by omega)
  refine ⟨⟨?_, ?_⟩, hKp⟩
  · refine ⟨⟨(hKp 0 0 (by decide) hI.k0).1, (hKp 1 0 (by decide) hI.k1).1, fun i hi => (hKp 2 i (by decide) (hI.k2 hi)).1, fun i hi => ⟨(hKp 5 i (by decide) (hI.k5 hi)).1, (hKp 6 i (by decide) (hI.k6 hi)).1, (hKp 7 i (by decide) (hI.k7 hi)).1⟩⟩, ⟨?_, ?_, ?_⟩, ⟨?_, ?_, ?_⟩, ?_, ⟨?_, ?_, ?_, ?_⟩, pi, ?_⟩
    · intro k h; rw [n3] at h; exact (hKp 4 k (by decide) (hI.k4 h)).1
    · intro k h; rw [n3, n25]; exact hI.th ((hk' 4 k (by decide) (by decide)).mp h)
    · rw [n3]; exact hI.nth
    · intro k h; rw [n3] at h
      by_cases z : k = T
      · exact (hk 8 k (by decide)).mpr (Or.inr (by omega))
      · exact (hKp 8 k (by decide) (hI.k8 (by rw [hT]; simp at h; omega))).1
    · intro k h
      rw [n3, n26, if_pos rfl]
      by_cases z : k = T
      · rw [if_pos z]
        exact ⟨by omega, hw, (hk 9 k (by decide)).mpr (Or.inr (by omega)), (hk 10 k (by decide)).mpr (Or.inr (by omega)), (hk 11 k (by decide)).mpr (Or.inr (by omega)), (hk 12 k (by decide)).mpr (Or.inr (by omega)), (hk 13 k (by decide)).mpr (Or.inr (by omega))⟩
      · rw [if_neg z]
        have h : (8, k) ∈ sK u := by
          rcases (hk 8 k (by decide)).mp h with y | y
          · exact y
          · exact absurd y.2.2 z
        have := hI.tx h
        exact ⟨by omega, this.2, (hKp 9 k (by decide) (hI.k9 h)).1, (hKp 10 k (by decide) (hI.k10 h)).1, (hKp 11 k (by decide) (hI.k11 h)).1, (hKp 12 k (by decide) (hI.k12 h)).1, (hKp 13 k (by decide) (hI.k13 h)).1⟩
    · rw [n3, if_pos rfl]; omega
    · intro q h
      rw [n22, n23, n24, n3, if_pos rfl]
      have := hI.ms ((hk' 14 q (by decide) (by decide)).mp h)
      omega
    · intro j hj; rw [n3] at hj
      rw [s1 0 (by decide) (by decide), hA 4 j (by decide) (by omega)]; exact hI.e0 hj
    · intro j hj; rw [n3, if_pos rfl] at hj
      by_cases z : j = T
      · rw [z, hAn]; exact s3
      · rw [s2 j (by omega), g1 j (by omega)]; exact hI.e1 (by omega)
    · intro j hj; rw [n3] at hj
      have hj : j < gN u.2.1 3 2 0 := hj
      rw [n31, s1 2 (by decide) (by decide), hA 14 _ (by decide) (by omega)]
      exact ⟨hI.e2 hj, (hKp 14 _ (by decide) (hI.k14 hj)).1⟩
    · intro s hs j hj
      rw [n3, if_neg (by omega)] at hj
      have ho := hI.o3 hs hj
      rw [s1 (3 + s) (by omega) (by omega), n30, g1 _ (by omega), n3, if_pos rfl]
      exact ⟨hI.e3 hs hj, by omega⟩
    · rw [n0]; exact hI.nst
  · refine ⟨?_, ?_⟩
    · intro q h; rw [n32]; exact hX.1 q ((hk' 14 q (by decide) (by decide)).mp h)
    · intro k t' h1 h2 h3; rw [n3, if_pos rfl]
      rcases (hk k t' (by omega)).mp h3 with y | y
      · have := hX.2 k t' h1 h2 y; omega
      · omega
/-! things -/
def gTh (c : Lg) (n w : Nat) (b : Bool) : Lg := uB (uN c 25 n 0 w) 4 n 0 b
def cTh (c : Lg) (w : Nat) (b : Bool) : Lg := uN (gTh c (gN c 3 0 0) w b) 3 0 0 (gN c 3 0 0 + 1)
def mkT (u : St) (a n w : Nat) (b : Bool) : St := mkK (wC u (gTh u.2.1 n w b)) 4 n a
theorem gTh_N (c : Lg) (n w : Nat) (b : Bool) {f : Nat} (h : f ≠ 25) : gN (gTh c n w b) f = gN c f := by unfold gTh; exact gN_f _ _ _ _ _ h
theorem gTh_25 (c : Lg) (n w : Nat) (b : Bool) (i : Nat) : gN (gTh c n w b) 25 i 0 = if i = n then w else gN c 25 i 0 := by
  show gN (uN c 25 n 0 w) 25 i 0 = _
  rw [gN_uN]; simp
theorem gTh_4 (c : Lg) (n w : Nat) (b : Bool) (i : Nat) : gB (gTh c n w b) 4 i 0 = if i = n then b else gB c 4 i 0 := by
  show up3 (gB c) 4 n 0 b 4 i 0 = _
  unfold up3; simp
set_option maxHeartbeats 1000000 in
theorem cn_th (env : Ev) (u : St) (n w : Nat) (b : Bool) (h4 : (4, n) ∉ sK u) : ∀ k' i', (k', i') ∈ sK u → cn env (wC u (gTh u.2.1 n w b)) k' i' = cn env u k' i' := by
  intro k' i' hm
  match k' with
  | 4 =>
    have hz : i' ≠ n := fun z => h4 (z ▸ hm)
    rw [cn_4, cn_4]
    show (.inr (3, [.int (nI i'), .ref (sA u 5 (gN (gTh u.2.1 n w b) 25 i' 0)), .int (b2i (gB (gTh u.2.1 n w b) 4 i' 0))]) : va_E) = _
    rw [gTh_25, gTh_4, if_neg hz, if_neg hz]
  | 0 => rfl
  | 1 => rfl
  | 2 => rfl
  | 3 => rfl
  | 5 => rfl
  | 6 => rfl
  | 7 => rfl
  | 8 => rfl
  | 9 => rfl
  | 10 => rfl
  | 11 => rfl
  | 12 => rfl
  | 13 => rfl
  | 14 => rfl
  | 15 => rfl
  | 16 => rfl
  | 17 => rfl
  | 18 => rfl
  | 19 => rfl
  | 20 => rfl
  | 21 => rfl
  | 22 => rfl
  | 23 => rfl
  | 24 => rfl
  | 25 => rfl
  | 26 => rfl
  | 27 => rfl
  | 28 => rfl
  | 29 => rfl
  | 30 => rfl
  | 31 => rfl
  | 32 => rfl
  | 33 => rfl
  | 34 => rfl
  | 35 => rfl
  | 36 => rfl
  | 37 => rfl
  | 38 => rfl
  | 39 => rfl
  | 40 => rfl
  | 41 => rfl
  | 42 => rfl
  | 43 => rfl
  | 44 => rfl
  | 45 => rfl
  | 46 => rfl
  | 47 => rfl
  | _ + 48 => rfl
set_option maxHeartbeats 1000000 in
theorem cn_K4 {env : Ev} {u : St} {n a : Nat} (h : (4, n) ∉ sK u) : ∀ k' i', (k', i') ∈ sK u → sA (mkK u 4 n a) k' i' = sA u k' i' ∧ cn env (mkK u 4 n a) k' i' = cn env u k' i' := by
  intro k' i' hm
  refine ⟨mkK_o ?_, ?_⟩
  · by_cases z : k' = 4
    · subst z; exact Or.inr (fun y => h (y ▸ hm))
    · exact Or.inl z
  · match k' with
    | 0 => rfl
    | 1 => rfl
    | 2 => rfl
    | 3 => rfl
    | 4 => rfl
    | 5 => rfl
    | 6 => rfl
    | 7 => rfl
    | 8 => rfl
    | 9 => rfl
    | 10 => rfl
    | 11 => rfl
    | 12 => rfl
    | 13 => rfl
    | 14 => rfl
    | 15 => rfl
    | 16 => rfl
    | 17 => rfl
    | 18 => rfl
    | 19 => rfl
    | 20 => rfl
    | 21 => rfl
    | 22 => rfl
    | 23 => rfl
    | 24 => rfl
    | 25 => rfl
    | 26 => rfl
    | 27 => rfl
    | 28 => rfl
    | 29 => rfl
    | 30 => rfl
    | 31 => rfl
    | 32 => rfl
    | 33 => rfl
    | 34 => rfl
    | 35 => rfl
    | 36 => rfl
    | 37 => rfl
    | 38 => rfl
    | 39 => rfl
    | 40 => rfl
    | 41 => rfl
    | 42 => rfl
    | 43 => rfl
    | 44 => rfl
    | 45 => rfl
    | 46 => rfl
    | 47 => rfl
    | _ + 48 => rfl
theorem mkT_m {u : St} {a n w k j : Nat} {b : Bool} : (k, j) ∈ sK (mkT u a n w b) ↔ (k, j) ∈ sK u ∨ (k = 4 ∧ j = n) := mkK_m
theorem mkT_A {u : St} {a n w k j : Nat} {b : Bool} (h : k ≠ 4 ∨ j ≠ n) : sA (mkT u a n w b) k j = sA u k j := mkK_o h
theorem SZ.fr4 {env : Ev} {u : St} (hZ : SZ env u) : (4, gN u.2.1 3 0 0) ∉ sK u := fun h => by have := (hZ.1.th h).1; omega
theorem SZ.mkTa {env : Ev} {u : St} {a w : Nat} {b : Bool} (hZ : SZ env u) : PI env (mkT u a (gN u.2.1 3 0 0) w b) ∧ (∀ j y, j < gN (mkT u a (gN u.2.1 3 0 0) w b).2.1 3 0 0 → sE (mkT u a (gN u.2.1 3 0 0) w b) (sM (mkT u a (gN u.2.1 3 0 0) w b) 2 0) j = some y → Obj (mkT u a (gN u.2.1 3 0 0) w b) y) ∧ Obj (mkT u a (gN u.2.1 3 0 0) w b) a ∧ Kp u (mkT u a (gN u.2.1 3 0 0) w b) ∧ gN (mkT u a (gN u.2.1 3 0 0) w b).2.1 3 0 0 = gN u.2.1 3 0 0 := by
  have hfr := SZ.fr4 hZ
  have e3 : gN (gTh u.2.1 (gN u.2.1 3 0 0) w b) 3 = gN u.2.1 3 := gTh_N _ _ _ _ (by decide)
  have hK : Kp u (mkT u a (gN u.2.1 3 0 0) w b) := by
    intro k i _ h
    refine ⟨mkT_m.mpr (Or.inl h), mkT_A ?_⟩
    by_cases z : k = 4
    · subst z; exact Or.inr (fun y => hfr (y ▸ h))
    · exact Or.inl z
  refine ⟨hZ.1.pi.mk (fun f hf => rfl) (fun z => mkT_A (by omega)) (fun k j hk => ?_) e3, fun j y hj hy => ?_, ⟨4, gN u.2.1 3 0 0, Or.inl rfl, mkT_m.mpr (Or.inr (by omega)), mkK_A _ _ _ _⟩, hK, by show gN (gTh u.2.1 _ w b) 3 0 0 = _; rw [e3]⟩
  · rw [mkT_m]; constructor
    · rintro (h | h)
      · exact h
      · omega
    · exact Or.inl
  · have hj : j < gN (gTh u.2.1 (gN u.2.1 3 0 0) w b) 3 0 0 := hj
    rw [e3] at hj
    exact Obj.kp hK (hZ.1.objs (i := 0) (by decide) j y hj hy)
set_option maxHeartbeats 1000000 in
theorem SZ.thg {env : Ev} {u : St} {a w mm q' : Nat} {b : Bool} (hZ : SZ env u) (hw : w < 4) (hn : gN u.2.1 3 0 0 < 12) : ∃ ph, adF (vM (mkT u a (gN u.2.1 3 0 0) w b) 1 0 mm) 0 a q' = (ph, cTh u.2.1 w b, u.2.2) ∧ SZ env (ph, cTh u.2.1 w b, u.2.2) ∧ Kp u (ph, cTh u.2.1 w b, u.2.2) := by
  have hfr := SZ.fr4 hZ
  obtain ⟨hI, hX⟩ := hZ
  have e3 : gN (gTh u.2.1 (gN u.2.1 3 0 0) w b) 3 = gN u.2.1 3 := gTh_N _ _ _ _ (by decide)
  have hP : PI env (vM (mkT u a (gN u.2.1 3 0 0) w b) 1 0 mm) := by
    refine hI.pi.mk (fun f hf => ?_) (fun z => ?_) (fun k j hk => ?_) e3
    · show up2 (sM u) 1 0 mm f = _; unfold up2; rw [if_neg hf]
    · show sA (mkT u a (gN u.2.1 3 0 0) w b) 3 z = _
      exact mkT_A (by omega)
    · show (k, j) ∈ sK (mkT u a (gN u.2.1 3 0 0) w b) ↔ _
      rw [mkT_m]; constructor
      · rintro (h | h)
        · exact h
        · omega
      · exact Or.inl
  have hAF := AF (b := a) (q := q') hP (i := 0) (by decide) (by show gN (gTh u.2.1 _ w b) 3 0 0 ≤ _; rw [e3]; omega)
  generalize adF (vM (mkT u a (gN u.2.1 3 0 0) w b) 1 0 mm) 0 a q' = v at hAF ⊢
  obtain ⟨e, k1, k2, s1, s2, s3, pi⟩ := hAF
  obtain ⟨ph, v2⟩ := v
  have e : v2 = (cTh u.2.1 w b, u.2.2) := by
    rw [show v2 = (uN (gTh u.2.1 (gN u.2.1 3 0 0) w b) 3 0 0 (gN (gTh u.2.1 (gN u.2.1 3 0 0) w b) 3 0 0 + 1), u.2.2) from e, e3]; rfl
  subst e
  refine ⟨ph, rfl, ?_⟩
  generalize hv : ((ph, cTh u.2.1 w b, u.2.2) : St) = v at *
  have ev : v.2.1 = cTh u.2.1 w b := by rw [← hv]
  generalize hT : gN u.2.1 3 0 0 = T at *
  have hk : ∀ k j, k ≠ 3 → ((k, j) ∈ sK v ↔ (k, j) ∈ sK u ∨ (k = 4 ∧ j = T)) := by
    intro k j h
    rw [k1 k j h]; exact mkT_m (a := a)
  have hk' : ∀ k j, k ≠ 3 → k ≠ 4 → ((k, j) ∈ sK v ↔ (k, j) ∈ sK u) := by
    intro k j h h'; rw [hk k j h]; simp [h']
  have hA : ∀ k j, k ≠ 3 → (k ≠ 4 ∨ j ≠ T) → sA v k j = sA u k j := by
    intro k j h h'
    rw [k2 k j h]
    exact mkT_A h'
  have hAn : sA v 4 T = a := by
    rw [k2 4 _ (by decide)]
    exact mkK_A (wC u (gTh u.2.1 T w b)) 4 T a
  have n3 : ∀ i, gN v.2.1 3 i 0 = if i = 0 then T + 1 else gN u.2.1 3 i 0 := by
    intro i; rw [ev]; unfold cTh; rw [gN_uN, hT, e3]; simp
  have nn : ∀ n, (n ≠ 3 ∧ n ≠ 25) → gN v.2.1 n = gN u.2.1 n := fun n h => by rw [ev]; unfold cTh; rw [gN_f _ _ _ _ _ h.1, gTh_N _ _ _ _ h.2]
  have n0 := nn 0 (by decide); have n26 := nn 26 (by decide); have n22 := nn 22 (by decide); have n23 := nn 23 (by decide); have n24 := nn 24 (by decide); have n30 := nn 30 (by decide); have n31 := nn 31 (by decide); have n32 := nn 32 (by decide)
  have n25 : ∀ j, gN v.2.1 25 j 0 = if j = T then w else gN u.2.1 25 j 0 := by
    intro j; rw [ev]; unfold cTh; rw [gN_f _ _ _ _ _ (by decide), hT, gTh_25]
  have wn : gN (vM (mkT u a T w b) 1 0 mm).2.1 3 0 0 = T := by show gN (gTh u.2.1 _ w b) 3 0 0 = _; rw [e3]; exact hT
  rw [wn] at s2 s3
  have hKp : Kp u v := by
    intro k i h hm
    refine ⟨(hk k i h).mpr (Or.inl hm), hA k i h ?_⟩
    by_cases z : k = 4
    · subst z; exact Or.inr (fun y => hfr (y ▸ hm))
    · exact Or.inl z
  refine ⟨⟨?_, ?_⟩, hKp⟩
  · refine ⟨⟨(hKp 0 0 (by decide) hI.k0).1, (hKp 1 0 (by decide) hI.k1).1, fun i hi => (hKp 2 i (by decide) (hI.k2 hi)).1, fun i hi => ⟨(hKp 5 i (by decide) (hI.k5 hi)).1, (hKp 6 i (by decide) (hI.k6 hi)).1, (hKp 7 i (by decide) (hI.k7 hi)).1⟩⟩, ⟨?_, ?_, ?_⟩, ⟨?_, ?_, ?_⟩, ?_, ⟨?_, ?_, ?_, ?_⟩, pi, ?_⟩
    · intro k h; rw [n3, if_pos rfl] at h
      by_cases z : k = T
      · exact (hk 4 k (by decide)).mpr (Or.inr (by omega))
      · exact (hKp 4 k (by decide) (hI.k4 (by omega))).1
    · intro k h
      rw [n3, n25, if_pos rfl]
      by_cases z : k = T
      · rw [if_pos z]; exact ⟨by omega, hw⟩
      · rw [if_neg z]
        have h : (4, k) ∈ sK u := by
          rcases (hk 4 k (by decide)).mp h with y | y
          · exact y
          · exact absurd y.2 z
        have := hI.th h
        exact ⟨by omega, this.2⟩
    · rw [n3, if_pos rfl]; omega
    · intro k h; rw [n3] at h; exact (hKp 8 k (by decide) (hI.k8 h)).1
    · intro k h
      have h := (hk' 8 k (by decide) (by decide)).mp h
      rw [n3, n26]
      exact ⟨(hI.tx h).1, (hI.tx h).2, (hKp 9 k (by decide) (hI.k9 h)).1, (hKp 10 k (by decide) (hI.k10 h)).1, (hKp 11 k (by decide) (hI.k11 h)).1, (hKp 12 k (by decide) (hI.k12 h)).1, (hKp 13 k (by decide) (hI.k13 h)).1⟩
    · rw [n3]; exact hI.ntx
    · intro q h
      rw [n22, n23, n24, n3]
      exact hI.ms ((hk' 14 q (by decide) (by decide)).mp h)
    · intro j hj; rw [n3, if_pos rfl] at hj
      by_cases z : j = T
      · rw [z, hAn]; exact s3
      · rw [s2 j (by omega), hA 4 j (by decide) (Or.inr z)]; exact hI.e0 (by omega)
    · intro j hj; rw [n3] at hj
      rw [s1 1 (by decide) (by decide), hA 8 j (by decide) (by omega)]; exact hI.e1 hj
    · intro j hj; rw [n3] at hj
      have hj : j < gN u.2.1 3 2 0 := hj
      rw [n31, s1 2 (by decide) (by decide), hA 14 _ (by decide) (by omega)]
      exact ⟨hI.e2 hj, (hKp 14 _ (by decide) (hI.k14 hj)).1⟩
    · intro s hs j hj
      rw [n3, if_neg (by omega)] at hj
      rw [s1 (3 + s) (by omega) (by omega), n30, hA 8 _ (by decide) (by omega), n3]
      exact ⟨hI.e3 hs hj, hI.o3 hs hj⟩
    · rw [n0]; exact hI.nst
  · refine ⟨?_, ?_⟩
    · intro q h; rw [n32]; exact hX.1 q ((hk' 14 q (by decide) (by decide)).mp h)
    · intro k t' h1 h2 h3; rw [n3]
      exact hX.2 k t' h1 h2 ((hk' k t' (by omega) (by omega)).mp h3)
theorem SZ.n0 {env : Ev} {u : St} {a b : Nat} (hZ : SZ env u) (ha : a ≤ 4) : SZ env (wC u (uN (uN u.2.1 0 0 0 a) 1 0 0 b)) :=
  ⟨⟨hZ.1.1, hZ.1.2.1, hZ.1.2.2.1, hZ.1.2.2.2.1, hZ.1.2.2.2.2.1, hZ.1.2.2.2.2.2.1, by show gN (uN (uN u.2.1 0 0 0 a) 1 0 0 b) 0 0 0 ≤ 4; simp [gN_uN]; exact ha⟩, hZ.2⟩


/-! lists: writes to the physical part -/
def up2 {α : Type} (F : Nat → Nat → α) (f i : Nat) (v : α) : Nat → Nat → α := fun f' => if f' = f then (fun i' => if i' = i then v else F f i') else F f'
def up1 {α : Type} (F : Nat → α) (i : Nat) (v : α) : Nat → α := fun i' => if i' = i then v else F i'
def vM (u : St) (f i v : Nat) : St := ((sK u, sA u, up2 (sM u) f i v, sE u), u.2)
def vE (u : St) (i j : Nat) (v : Option Nat) : St := ((sK u, sA u, sM u, up1 (sE u) i (va_up (sE u i) j v)), u.2)
def vF (u : St) (i : Nat) (f : Nat → Option Nat) : St := ((sK u, sA u, sM u, up1 (sE u) i f), u.2)
set_option maxHeartbeats 1000000 in
theorem cu_M1 (env : Ev) (u : St) (i v : Nat) : ∀ k' i', cn env (vM u 1 i v) k' i' = if k' = 2 ∧ i' = i then .inr (0, ([.int (nI (sM u 1 i)), .ref (sA u 3 (sM u 2 i)), .int (nI (gN u.2.1 3 i 0))] : List Value).set 0 (.int (nI v))) else cn env u k' i' := by
  intro k' i'
  match k' with
  | 2 =>
    by_cases h : i' = i
    · subst h; simp [cn, vM, up2, sA, sM, sE]
    · simp [cn, vM, up2, sA, sM, sE, h]
  | 0 => rfl
  | 1 => rfl
  | 3 => rfl
  | 4 => rfl
  | 5 => rfl
  | 6 => rfl
  | 7 => rfl
  | 8 => rfl
  | 9 => rfl
  | 10 => rfl
  | 11 => rfl
  | 12 => rfl
  | 13 => rfl
  | 14 => rfl
  | 15 => rfl
  | 16 => rfl
  | 17 => rfl
  | 18 => rfl
  | 19 => rfl
  | 20 => rfl
  | 21 => rfl
  | 22 => rfl
  | 23 => rfl
  | 24 => rfl
  | 25 => rfl
  | 26 => rfl
  | 27 => rfl
  | 28 => rfl
  | 29 => rfl
  | 30 => rfl
  | 31 => rfl
  | 32 => rfl
  | 33 => rfl
  | 34 => rfl
  | 35 => rfl
  | 36 => rfl
  | 37 => rfl
  | 38 => rfl
  | 39 => rfl
  | 40 => rfl
  | 41 => rfl
  | 42 => rfl
  | 43 => rfl
  | 44 => rfl
  | 45 => rfl
  | 46 => rfl
  | 47 => rfl
  | _ + 48 => rfl
set_option maxHeartbeats 1000000 in
theorem cu_F (env : Ev) (u : St) (i : Nat) (f : Nat → Option Nat) : ∀ k' i', cn env (vF u i f) k' i' = if k' = 3 ∧ i' = i then .inl (env.2.1 4, sM u 0 i, .inr (.inr (.inr (.inr f)))) else cn env u k' i' := by
  intro k' i'
  match k' with
  | 3 =>
    by_cases h : i' = i
    · subst h; simp [cn, vF, up1, sA, sM, sE]
    · simp [cn, vF, up1, sA, sM, sE, h]
  | 0 => rfl
  | 1 => rfl
  | 2 => rfl
  | 4 => rfl
  | 5 => rfl
  | 6 => rfl
  | 7 => rfl
  | 8 => rfl
  | 9 => rfl
  | 10 => rfl
  | 11 => rfl
  | 12 => rfl
  | 13 => rfl
  | 14 => rfl
  | 15 => rfl
  | 16 => rfl
  | 17 => rfl
  | 18 => rfl
  | 19 => rfl
  | 20 => rfl
  | 21 => rfl
  | 22 => rfl
  | 23 => rfl
  | 24 => rfl
  | 25 => rfl
  | 26 => rfl
  | 27 => rfl
  | 28 => rfl
  | 29 => rfl
  | 30 => rfl
  | 31 => rfl
  | 32 => rfl
  | 33 => rfl
  | 34 => rfl
  | 35 => rfl
  | 36 => rfl
  | 37 => rfl
  | 38 => rfl
  | 39 => rfl
  | 40 => rfl
  | 41 => rfl
  | 42 => rfl
  | 43 => rfl
  | 44 => rfl
  | 45 => rfl
  | 46 => rfl
  | 47 => rfl
  | _ + 48 => rfl
set_option maxHeartbeats 1000000 in
theorem cu_M2 (env : Ev) (u : St) (i z : Nat) : ∀ k' i', cn env (vM u 2 i z) k' i' = if k' = 2 ∧ i' = i then .inr (0, ([.int (nI (sM u 1 i)), .ref (sA u 3 (sM u 2 i)), .int (nI (gN u.2.1 3 i 0))] : List Value).set 1 (.ref (sA u 3 z))) else cn env u k' i' := by
  intro k' i'
  match k' with
  | 2 =>
    by_cases h : i' = i
    · subst h; simp [cn, vM, up2, sA, sM, sE]
    · simp [cn, vM, up2, sA, sM, sE, h]
  | 0 => rfl
  | 1 => rfl
  | 3 => rfl
  | 4 => rfl
  | 5 => rfl
  | 6 => rfl
  | 7 => rfl
  | 8 => rfl
  | 9 => rfl
  | 10 => rfl
  | 11 => rfl
  | 12 => rfl
  | 13 => rfl
  | 14 => rfl
  | 15 => rfl
  | 16 => rfl
  | 17 => rfl
  | 18 => rfl
  | 19 => rfl
  | 20 => rfl
  | 21 => rfl
  | 22 => rfl
  | 23 => rfl
  | 24 => rfl
  | 25 => rfl
  | 26 => rfl
  | 27 => rfl
  | 28 => rfl
  | 29 => rfl
  | 30 => rfl
  | 31 => rfl
  | 32 => rfl
  | 33 => rfl
  | 34 => rfl
  | 35 => rfl
  | 36 => rfl
  | 37 => rfl
  | 38 => rfl
  | 39 => rfl
  | 40 => rfl
  | 41 => rfl
  | 42 => rfl
  | 43 => rfl
  | 44 => rfl
  | 45 => rfl
  | 46 => rfl
  | 47 => rfl
  | _ + 48 => rfl
theorem pool_push {env : Ev} {u u' : St} {k i : Nat} (hk : sK u' = sK u ++ [(k, i)]) (ha : ∀ k' i', (k', i') ∈ sK u → sA u' k' i' = sA u k' i' ∧ cn env u' k' i' = cn env u k' i') : pool env u' = pool env u ++ [(sA u' k i, cn env u' k i)] := by
  unfold pool
  rw [hk, List.map_append]
  refine congrArg (fun l => l ++ _) ?_
  apply List.map_congr_left
  intro q hq
  obtain ⟨h1, h2⟩ := ha q.1 q.2 hq
  rw [h1, h2]
/-- the same cells in another order, or some of them -/
theorem re_P {D : va_G} {cl : List vw_C} {ws ws' : va_W} {H : Heap} (φ : Nat → Nat) (h : ∀ p x, ws'[p]? = some x → ws[φ p]? = some x) (hP : va_P D cl ws H) : va_P D cl ws' H := fun p x hx => hP (φ p) x (h p x hx)
theorem re_D {A : Nat → Prop} {ws ws' : va_W} (φ : Nat → Nat) (h : ∀ p x, ws'[p]? = some x → ws[φ p]? = some x) (hi : ∀ p q, p < ws'.length → q < ws'.length → φ p = φ q → p = q) (hD : va_D A ws) : va_D A ws' :=
  ⟨fun i j p q h1 h2 e => hi i j (List.getElem?_eq_some_iff.mp h1).1 (List.getElem?_eq_some_iff.mp h2).1 (hD.1 _ _ _ _ (h i p h1) (h j q h2) e), fun p x hx => hD.2 _ _ (h p x hx)⟩
theorem mv_in {c : Nat × va_E} {ws : va_W} (p : Nat) (x : Nat × va_E) (h : (c :: ws)[p]? = some x) : (ws ++ [c])[if p = 0 then ws.length else p - 1]? = some x := by
  cases p with
  | zero => simp at h ⊢; exact h
  | succ p =>
    simp at h ⊢
    rw [List.getElem?_append_left (List.getElem?_eq_some_iff.mp h).1]; exact h
theorem mv_inj {c : Nat × va_E} {ws : va_W} (p q : Nat) (hp : p < (c :: ws).length) (hq : q < (c :: ws).length) (h : (if p = 0 then ws.length else p - 1) = (if q = 0 then ws.length else q - 1)) : p = q := by
  simp at hp hq
  split at h <;> split at h <;> omega
theorem mv_out {c : Nat × va_E} {ws : va_W} (p : Nat) (x : Nat × va_E) (h : (ws ++ [c])[p]? = some x) : (c :: ws)[if p = ws.length then 0 else p + 1]? = some x := by
  by_cases z : p = ws.length
  · subst z; simp at h ⊢; exact h
  · rw [if_neg z]
    have := (List.getElem?_eq_some_iff.mp h).1
    simp at this
    rw [List.getElem?_append_left (by omega)] at h
    simpa using h
theorem mv_injo {c : Nat × va_E} {ws : va_W} (p q : Nat) (hp : p < (ws ++ [c]).length) (hq : q < (ws ++ [c]).length) (h : (if p = ws.length then 0 else p + 1) = (if q = ws.length then 0 else q + 1)) : p = q := by
  simp at hp hq
  split at h <;> split at h <;> omega
/-- a new row of elements -/
def newO (u : St) (q n : Nat) : St := ((sK u ++ [(3, sM u 3 0)], up2 (sA u) 3 (sM u 3 0) q, up2 (up2 (sM u) 0 (sM u 3 0) n) 3 0 (sM u 3 0 + 1), up1 (sE u) (sM u 3 0) (fun _ => none)), u.2)
set_option maxHeartbeats 2000000 in
theorem cn_newO (env : Ev) (u : St) (q n : Nat) (h3 : (3, sM u 3 0) ∉ sK u) (h2 : ∀ i, (2, i) ∈ sK u → sM u 2 i ≠ sM u 3 0) : ∀ k' i', (k', i') ∈ sK u → sA (newO u q n) k' i' = sA u k' i' ∧ cn env (newO u q n) k' i' = cn env u k' i' := by
  intro k' i' hk
  have e3 : ∀ z, z ≠ sM u 3 0 → sA (newO u q n) 3 z = sA u 3 z := fun z hz => by simp [newO, sA, up2, hz]
  refine ⟨?_, ?_⟩
  · by_cases h : k' = 3
    · subst h; exact e3 i' (fun z => h3 (z ▸ hk))
    · simp [newO, sA, up2, h]
  · match k' with
    | 2 =>
      have := e3 _ (h2 i' hk)
      show (.inr (0, [.int (nI (sM (newO u q n) 1 i')), .ref (sA (newO u q n) 3 (sM (newO u q n) 2 i')), .int (nI (gN u.2.1 3 i' 0))]) : va_E) = _
      have e1 : sM (newO u q n) 1 i' = sM u 1 i' := rfl
      have e2 : sM (newO u q n) 2 i' = sM u 2 i' := rfl
      rw [e1, e2, this]; rfl
    | 3 =>
      have hz : i' ≠ sM u 3 0 := fun z => h3 (z ▸ hk)
      have e1 : sM (newO u q n) 0 i' = sM u 0 i' := by simp [newO, sM, up2] ; intro z; exact absurd z hz
      have e2 : sE (newO u q n) i' = sE u i' := by simp [newO, sE, up1]; intro z; exact absurd z hz
      show (.inl (env.2.1 4, sM (newO u q n) 0 i', .inr (.inr (.inr (.inr (sE (newO u q n) i'))))) : va_E) = _
      rw [e1, e2]; rfl
    | 0 => rfl
    | 1 => rfl
    | 4 => rfl
    | 5 => rfl
    | 6 => rfl
    | 7 => rfl
    | 8 => rfl
    | 9 => rfl
    | 10 => rfl
    | 11 => rfl
    | 12 => rfl
    | 13 => rfl
    | 14 => rfl
    | 15 => rfl
    | 16 => rfl
    | 17 => rfl
    | 18 => rfl
    | 19 => rfl
    | 20 => rfl
    | 21 => rfl
    | 22 => rfl
    | 23 => rfl
    | 24 => rfl
    | 25 => rfl
    | 26 => rfl
    | 27 => rfl
    | 28 => rfl
    | 29 => rfl
    | 30 => rfl
    | 31 => rfl
    | 32 => rfl
    | 33 => rfl
    | 34 => rfl
    | 35 => rfl
    | 36 => rfl
    | 37 => rfl
    | 38 => rfl
    | 39 => rfl
    | 40 => rfl
    | 41 => rfl
    | 42 => rfl
    | 43 => rfl
    | 44 => rfl
    | 45 => rfl
    | 46 => rfl
    | 47 => rfl
    | _ + 48 => rfl
section LW
variable {p : Program} {l : Launch} {e : Env} {R : Room} {s : State} {m : MethodId} {args : Array Value} {below : List Frame} {meth : Method} {c : Code} {H : Heap} {locs : List Loc} {cells slots : Nat} {Q : State → Prop} {cc : ByteArray} {nL : Nat} {own : String} {pc : Nat} {ls : Array Slot} {rest : List Value} {env : Ev} {s0 : Nat} {X : va_W} {u : St} {k i a : Nat}
/-- putfield with a field that a superclass declares -/
theorem w_putM (hF : CallFix p m c cc nL s args TT own) (hB : Bd env s0 X u s H locs) (ha : At u k i a) {ci N fk index : Nat} {fs : List Value} {C ref : String} {T : u_T} (u' : St) (he : cn env u k i = .inr (ci, fs)) (hc : vwCl[ci]? = some (C, T, N)) (hin : ∀ w ∈ u_ws C T N, w ∈ TT) (ty0 : Nat → FieldType) (hty : ∀ k, k < N → parseFieldDescriptor (T k).2.2.1 = some (ty0 k)) (hnm : ∀ a, a < N → ∀ b, b < N → a ≠ b → (T a).2.1 ≠ (T b).2.1) (hfk : fk < N) (hl : Cond.fieldLink own index ref (T fk).2.1 (T fk).2.2.1 ∈ TT) (hsame : ∀ x, s.fieldFound? (T fk).1 (T fk).2.1 (T fk).2.2.1 = some x → s.fieldFound? ref (T fk).2.1 (T fk).2.2.1 = some x) (hfin : (T fk).2.2.2 = false) {ty : FieldType} {v : Value} (hd : parseFieldDescriptor (T fk).2.2.1 = some ty) (hnr : narrow ty v = v) (hfit : fits ty v = true) (hlen : fk < fs.length) (hs : sK u' = sK u) (hA : sA u' = sA u) (hcu : ∀ k' i', cn env u' k' i' = if k' = k ∧ i' = i then .inr (ci, fs.set fk v) else cn env u k' i') (hdg : decode cc pc = .ok (.putfield index, 3)) (kk : ∀ H locs, Bd env s0 X u' s H locs → W p l e R s m args below meth c H locs cells slots Q (F0 m (pc + 3) ls (rest))) : W p l e R s m args below meth c H locs cells slots Q (F0 m pc ls (v :: .ref a :: rest)) := by
  obtain ⟨n, hn⟩ := pool_at (env := env) (X := X) ha
  have hn0 := hn
  rw [he] at hn
  refine va_put hF.1 hF.2.1 hF.2.2.2.2 hin ty0 hty hnm hF.2.2.2.1 hB.1.2.1 hB.1.1 hB.1.2.2 hB.2.1 n hn hc fk hfk (hF.2.2.2.2 _ hl) hsame hfin hd hnr hfit hlen hdg (fun H1 locs1 hP hD hS => ?_)
  rw [pool_set hB.1.2.2 ha hn0 hs hA hcu] at hP hD
  exact kk H1 locs1 ⟨⟨hP, hB.1.2.1, hD⟩, hS, hB.2.2⟩
theorem w_alO (hF : CallFix p m c cc nL s args TT own) (hB : Bd env s0 X u s H locs) {n : Nat} (ha : At u 3 i a) (hn : sM u 0 i = n) (hdg : decode cc pc = .ok (.arraylength, 1)) (kk : W p l e R s m args below meth c H locs cells slots Q (F0 m (pc + 1) ls (.int (nI n) :: rest))) : W p l e R s m args below meth c H locs cells slots Q (F0 m pc ls (.ref a :: rest)) := by
  obtain ⟨n0, h⟩ := pool_at (env := env) (X := X) ha
  rw [cn_3] at h
  exact va_alen hF.1 hF.2.1 hB.1.2.1 hB.1.1 n0 4 h rfl (by show Int32.ofNat (sM u 0 i) = nI n; rw [hn]; rfl) hdg kk
theorem w_alD (hF : CallFix p m c cc nL s args TT own) (hB : Bd env s0 X u s H locs) (ha : a = env.2.2.1) (hdg : decode cc pc = .ok (.arraylength, 1)) (kk : W p l e R s m args below meth c H locs cells slots Q (F0 m (pc + 1) ls (.int (nI 0) :: rest))) : W p l e R s m args below meth c H locs cells slots Q (F0 m pc ls (.ref a :: rest)) := by
  subst ha
  exact va_tlen hF.1 hF.2.1 hB.2.2.2.1.2.1 hB.2.1 (by rfl) hdg kk
theorem w_defs (hF : CallFix p m c cc nL s args TT own) (hB : Bd env s0 X u s H locs) {index : Nat} (hl : Cond.fieldLink own index "java/util/ArrayList" "DEFAULTCAPACITY_EMPTY_ELEMENTDATA" "[Ljava/lang/Object;" ∈ TT) (hdg : decode cc pc = .ok (.getstatic index, 3)) (kk : W p l e R s m args below meth c H locs cells slots Q (F0 m (pc + 3) ls (.ref env.2.2.1 :: rest))) : W p l e R s m args below meth c H locs cells slots Q (F0 m pc ls (rest)) :=
  va_gets hF.1 hF.2.1 hB.2.2.2.1.1 hB.2.1 hF.2.2.2.1 (hF.2.2.2.2 _ hl) (fun _ h => h) hdg kk
/-- what may stand in a list: an object of the class's own kinds -/
theorem Bd.any {k' i' b ci : Nat} {fs : List Value} {q : vw_C} (hB : Bd env s0 X u s H locs) (hF : CallFix p m c cc nL s args TT own) (hb : At u k' i' b) (he : cn env u k' i' = .inr (ci, fs)) (hc : vwCl[ci]? = some q) (hcast : Cond.castable q.1 "java/lang/Object" ∈ TT) : va_Any "java/lang/Object" s H b := by
  obtain ⟨n, hn⟩ := pool_at (env := env) (X := X) hb
  rw [he] at hn
  exact va_rAny hB.1.2.1 hB.1.1 hn hc (fun comp c0 h1 h2 => vb_asgC (va_Nw.of rfl (hF.2.2.2.2 _ hcast)) comp c0 h1 h2)
/-- aastore into the elements of a list -/
theorem w_astO (hF : CallFix p m c cc nL s args TT own) (hB : Bd env s0 X u s H locs) {b j : Nat} (ha : At u 3 i a) (hb : va_Any "java/lang/Object" s H b) (hj : j < sM u 0 i) (hc : sM u 0 i ≤ 4096) (hdg : decode cc pc = .ok (.aastore, 1)) (kk : ∀ H locs, Bd env s0 X (vF u i (va_up (sE u i) j (some b))) s H locs → W p l e R s m args below meth c H locs cells slots Q (F0 m (pc + 1) ls (rest))) : W p l e R s m args below meth c H locs cells slots Q (F0 m pc ls (.ref b :: .int (nI j) :: .ref a :: rest)) := by
  obtain ⟨n0, hn⟩ := pool_at (env := env) (X := X) ha
  have hn0 := hn
  rw [cn_3] at hn
  refine va_astqM hF.1 hF.2.1 hB.1.2.1 hB.1.1 hB.1.2.2 hB.2.1 n0 4 hn rfl hb (vp_in_nI hj (by omega)) hdg (fun H1 locs1 hP hD hS => ?_)
  rw [nI_clamp (by omega)] at hP hD
  rw [pool_set (u' := vF u i (va_up (sE u i) j (some b))) hB.1.2.2 ha hn0 rfl rfl (cu_F env u i _)] at hP hD
  exact kk H1 locs1 ⟨⟨hP, hB.1.2.1, hD⟩, hS, hB.2.2⟩
theorem w_astN (hF : CallFix p m c cc nL s args TT own) (hB : Bd env s0 X u s H locs) {j : Nat} (ha : At u 3 i a) (hj : j < sM u 0 i) (hc : sM u 0 i ≤ 4096) (hdg : decode cc pc = .ok (.aastore, 1)) (kk : ∀ H locs, Bd env s0 X (vF u i (va_up (sE u i) j none)) s H locs → W p l e R s m args below meth c H locs cells slots Q (F0 m (pc + 1) ls (rest))) : W p l e R s m args below meth c H locs cells slots Q (F0 m pc ls (.null :: .int (nI j) :: .ref a :: rest)) := by
  obtain ⟨n0, hn⟩ := pool_at (env := env) (X := X) ha
  have hn0 := hn
  rw [cn_3] at hn
  refine va_astqN hF.1 hF.2.1 hB.1.2.1 hB.1.1 hB.1.2.2 hB.2.1 n0 4 hn rfl (vp_in_nI hj (by omega)) hdg (fun H1 locs1 hP hD hS => ?_)
  rw [nI_clamp (by omega)] at hP hD
  rw [pool_set (u' := vF u i (va_up (sE u i) j none)) hB.1.2.2 ha hn0 rfl rfl (cu_F env u i _)] at hP hD
  exact kk H1 locs1 ⟨⟨hP, hB.1.2.1, hD⟩, hS, hB.2.2⟩
/-- arraycopy between two rows of lists -/
theorem w_acpO (hF : CallFix p m c cc nL s args TT own) (hB : Bd env s0 X u s H locs) (hls : ls.size = nL) {i2 a2 sp dp n index : Nat} (h1 : At u 3 i a) (h2 : At u 3 i2 a2) (h4 : sp + n ≤ sM u 0 i) (h5 : dp + n ≤ sM u 0 i2) (hc : sM u 0 i ≤ 4096) (hc2 : sM u 0 i2 ≤ 4096) (hel : ∀ j y, j < n → sE u i (sp + j) = some y → va_Any "java/lang/Object" s H y) (hl : Cond.methodLink own index arraycopyName ∈ TT) (hnat : Cond.native arraycopyName ∈ TT) (hst : Cond.static arraycopyName ∈ TT) (hini : Cond.initialized "java/lang/System" ∈ TT) (hfr : 1 ≤ R.frames) (hlo : (rest.map fun v => v.category).sum + (nativeFrameWords "java/lang/System" "arraycopy" 5 + 11) ≤ R.locals) (hdg : decode cc pc = .ok (.invokestatic index, 3)) (kk : ∀ H locs, Bd env s0 X (vF u i2 (va_cpy (sE u i) (sE u i2) sp dp n)) s H locs → W p l e R s m args below meth c H locs cells slots Q (F0 m (pc + 3) ls (rest))) : W p l e R s m args below meth c H locs cells slots Q (F0 m pc ls (.int (nI n) :: .int (nI dp) :: .ref a2 :: .int (nI sp) :: .ref a :: rest)) := by
  obtain ⟨n1, hn1⟩ := pool_at (env := env) (X := X) h1
  obtain ⟨n2, hn2⟩ := pool_at (env := env) (X := X) h2
  have hn0 := hn2
  rw [cn_3] at hn1 hn2
  have e1 : (nI sp).toNatClampNeg = sp := nI_clamp (by omega)
  have e2 : (nI dp).toNatClampNeg = dp := nI_clamp (by omega)
  have e3 : (nI n).toNatClampNeg = n := nI_clamp (by omega)
  refine va_copyM hF.1 hF.2.1 (hF.2.2.1.trans hls.symm) hF.2.2.2.1 (hF.2.2.2.2 _ hl) (hF.2.2.2.2 _ hnat) (hF.2.2.2.2 _ hst) (hF.2.2.2.2 _ hini) hB.1.2.1 hB.1.1 hB.1.2.2 hB.2.1 n1 n2 4 4 hn1 hn2 rfl rfl (nI_pos (by omega)) (nI_pos (by omega)) (nI_pos (by omega)) (by rw [e1, e3]; exact h4) (by rw [e2, e3]; exact h5) (fun j hj y hy => hel j y (by rw [e3] at hj; exact hj) (by rw [e1] at hy; exact hy)) hfr hlo hdg (fun H1 locs1 hP hD hS => ?_)
  rw [e1, e2, e3] at hP hD
  rw [pool_set (u' := vF u i2 (va_cpy (sE u i) (sE u i2) sp dp n)) hB.1.2.2 h2 hn0 rfl rfl (cu_F env u i2 _)] at hP hD
  exact kk H1 locs1 ⟨⟨hP, hB.1.2.1, hD⟩, hS, hB.2.2⟩
theorem w_newO (hF : CallFix p m c cc nL s args TT own) (hB : Bd env s0 X u s H locs) {n index : Nat} (hl : Cond.classLink own index "java/lang/Object" ∈ TT) (hov : Cond.arrayOver (.object "java/lang/Object") ∈ TT) (hn : n ≤ 8192) (h3 : (3, sM u 3 0) ∉ sK u) (h2 : ∀ i, (2, i) ∈ sK u → sM u 2 i ≠ sM u 3 0) (hc : cells + 1 ≤ R.cells) (hs : slots + n ≤ R.slots) (hdg : decode cc pc = .ok (.anewarray index, 3)) (kk : ∀ q H, Bd env s0 X (newO u q n) s H locs → W p l e R s m args below meth c H locs (cells + 1) (slots + n) Q (F0 m (pc + 3) ls (.ref q :: rest))) : W p l e R s m args below meth c H locs cells slots Q (F0 m pc ls (.int (nI n) :: rest)) := by
  refine va_newq hF.1 hF.2.1 hF.2.2.2.1 (hF.2.2.2.2 _ hl) (va_AO.of (hF.2.2.2.2 _ hov)) hB.1.2.1 hB.1.1 hB.1.2.2 hB.2.1 (fun q h => Nat.le_trans hB.2.2.2.2 h) (nI_pos (by omega)) (nI_clamp (by omega)) (by omega) hc hs hdg (fun q cA H1 hK hP hD hS => ?_)
  have e : cA = env.2.1 4 := by
    have h1 := va_nmO (hK.2 5 _ rfl).2 rfl
    have h2 := va_nmO (hB.1.2.1.2 4 _ rfl).2 rfl
    rw [h1] at h2
    exact Option.some.inj h2
  subst e
  have hp : X ++ pool env (newO u q n) = (X ++ pool env u) ++ [(q, .inl (env.2.1 4, n, .inr (.inr (.inr (.inr (fun _ => none))))))] := by
    rw [pool_push (u := u) (k := 3) (i := sM u 3 0) rfl (cn_newO env u q n h3 h2), ← List.append_assoc]
    refine congrArg (fun c => (X ++ pool env u) ++ [c]) ?_
    simp [newO, sA, up2, cn, sM, sE, up1]
  rw [← hp] at hP hD
  exact kk q H1 ⟨⟨hP, hB.1.2.1, hD⟩, hS, hB.2.2⟩
theorem w_putED (hF : CallFix p m c cc nL s args TT own) (hB : Bd env s0 X u s H locs) {z index : Nat} (ha : At u 2 i a) (hl : Cond.fieldLink own index "java/util/ArrayList" "elementData" "[Ljava/lang/Object;" ∈ TT) (hdg : decode cc pc = .ok (.putfield index, 3)) (kk : ∀ H locs, Bd env s0 X (vM u 2 i z) s H locs → W p l e R s m args below meth c H locs cells slots Q (F0 m (pc + 3) ls (rest))) : W p l e R s m args below meth c H locs cells slots Q (F0 m pc ls (.ref (sA u 3 z) :: .ref a :: rest)) :=
  w_putM (fk := 1) (v := .ref (sA u 3 z)) (ty := .array (.object "java/lang/Object")) hF hB ha (vM u 2 i z) (cn_2 env u i) rfl in_AL tyJx4a65c tyJx4a65c_ok nmJx4a65c (by decide) hl (fun _ h => h) rfl (by decide +kernel) rfl rfl (Nat.le_of_ble_eq_true rfl) rfl rfl (cu_M2 env u i z) hdg kk
theorem w_mmax (hF : CallFix p m c cc nL s args TT own) (hB : Bd env s0 X u s H locs) (hls : ls.size = nL) {x y index : Nat} (hx : x < 2 ^ 31) (hy : y < 2 ^ 31) (hl : Cond.methodLink own index Lib.Math.max.name ∈ TT) (hst : Cond.static Lib.Math.max.name ∈ TT) (hini : Cond.initialized "java/lang/Math" ∈ TT) (hcd : Cond.code Lib.Math.max.name Lib.Math.max.code 2 (some .int) ∈ TT) (hfr : 1 ≤ R.frames) (hlo : (rest.map fun v => v.category).sum + 13 ≤ R.locals) (hc : cells ≤ R.cells) (hs : slots ≤ R.slots) (hdg : decode cc pc = .ok (.invokestatic index, 3)) (kk : W p l e R s m args below meth c H locs cells slots Q (F0 m (pc + 3) ls (.int (nI (max x y)) :: rest))) : W p l e R s m args below meth c H locs cells slots Q (F0 m pc ls (.int (nI y) :: .int (nI x) :: rest)) := by
  refine va_mmax hF.1 hF.2.1 (hF.2.2.1.trans hls.symm) hF.2.2.2.1 (hF.2.2.2.2 _ hl) (hF.2.2.2.2 _ hst) (hF.2.2.2.2 _ hini) (hF.2.2.2.2 _ hcd) hfr hlo hc hs hdg ?_
  have e : (if nI x < nI y then nI y else nI x) = nI (max x y) := by
    by_cases z : x < y
    · rw [if_pos ((nI_ltI hx hy).mpr z), Nat.max_eq_right (by omega)]
    · rw [if_neg (fun q => z ((nI_ltI hx hy).mp q)), Nat.max_eq_left (by omega)]
  rw [e]; exact kk
theorem w_mmin (hF : CallFix p m c cc nL s args TT own) (hB : Bd env s0 X u s H locs) (hls : ls.size = nL) {x y index : Nat} (hx : x < 2 ^ 31) (hy : y < 2 ^ 31) (hl : Cond.methodLink own index Lib.Math.min.name ∈ TT) (hst : Cond.static Lib.Math.min.name ∈ TT) (hini : Cond.initialized "java/lang/Math" ∈ TT) (hcd : Cond.code Lib.Math.min.name Lib.Math.min.code 2 (some .int) ∈ TT) (hfr : 1 ≤ R.frames) (hlo : (rest.map fun v => v.category).sum + 13 ≤ R.locals) (hc : cells ≤ R.cells) (hs : slots ≤ R.slots) (hdg : decode cc pc = .ok (.invokestatic index, 3)) (kk : W p l e R s m args below meth c H locs cells slots Q (F0 m (pc + 3) ls (.int (nI (min x y)) :: rest))) : W p l e R s m args below meth c H locs cells slots Q (F0 m pc ls (.int (nI y) :: .int (nI x) :: rest)) := by
  refine va_mmin hF.1 hF.2.1 (hF.2.2.1.trans hls.symm) hF.2.2.2.1 (hF.2.2.2.2 _ hl) (hF.2.2.2.2 _ hst) (hF.2.2.2.2 _ hini) (hF.2.2.2.2 _ hcd) hfr hlo hc hs hdg ?_
  have e : (if nI y < nI x then nI y else nI x) = nI (min x y) := by
    by_cases z : y < x
    · rw [if_pos ((nI_ltI hy hx).mpr z), Nat.min_eq_right (by omega)]
    · rw [if_neg (fun q => z ((nI_ltI hy hx).mp q)), Nat.min_eq_left (by omega)]
  rw [e]; exact kk
end LW

section AW
variable {p : Program} {l : Launch} {e : Env} {R : Room} {s : State} {m : MethodId} {args : Array Value} {below : List Frame} {meth : Method} {c : Code} {H : Heap} {locs : List Loc} {cells slots : Nat} {Q : State → Prop} {cc : ByteArray} {nL : Nat} {own : String} {pc : Nat} {ls : Array Slot} {rest : List Value} {env : Ev} {s0 : Nat} {X : va_W} {u : St} {k i a b : Nat}
/-- the cell at the head of X goes into the pool, as a key -/
theorem Bd.absorb {q : Nat} {x : va_E} {u' : St} (hB : Bd env s0 ((q, x) :: X) u s H locs) (hK : sK u' = sK u ++ [(k, i)]) (hA : sA u' k i = q) (he : cn env u' k i = x) (ho : ∀ k' i', (k', i') ∈ sK u → sA u' k' i' = sA u k' i' ∧ cn env u' k' i' = cn env u k' i') : Bd env s0 X u' s H locs := by
  have hp : X ++ pool env u' = (X ++ pool env u) ++ [(q, x)] := by
    rw [pool_push hK ho, hA, he, List.append_assoc]
  refine ⟨⟨?_, hB.1.2.1, ?_⟩, hB.2⟩
  · rw [hp]
    exact re_P (ws := (q, x) :: (X ++ pool env u)) _ (fun p y h => mv_out p y h) hB.1.1
  · rw [hp]
    exact re_D (ws := (q, x) :: (X ++ pool env u)) _ (fun p y h => mv_out p y h) (fun p q h1 h2 h3 => mv_injo p q h1 h2 h3) hB.1.2.2
theorem Bd.front {q : Nat} {x : va_E} (hP : va_P env.1 vwCl ((X ++ pool env u) ++ [(q, x)]) H) (hK : va_K env.1 vwCl (tyL env) s) (hD : va_D (fun q => s0 ≤ q) ((X ++ pool env u) ++ [(q, x)])) (hS : va_S (fun q => s0 ≤ q) s.heap H locs) (hr : Tb s ∧ Zs env s0 s s.heap ∧ s0 ≤ s.heap.size) : Bd env s0 ((q, x) :: X) u s H locs :=
  ⟨⟨re_P (ws' := (q, x) :: (X ++ pool env u)) _ (fun p y h => mv_in p y h) hP, hK, re_D (ws' := (q, x) :: (X ++ pool env u)) _ (fun p y h => mv_in p y h) (fun p q h1 h2 h3 => mv_inj p q h1 h2 h3) hD⟩, hS, hr⟩
/-- ghosts, and what no living cell holds, may change -/
theorem Bd.ghost {u' : St} (hB : Bd env s0 X u s H locs) (hK : sK u' = sK u) (hA : ∀ k' i', (k', i') ∈ sK u → sA u' k' i' = sA u k' i' ∧ cn env u' k' i' = cn env u k' i') : Bd env s0 X u' s H locs := by
  have hp : pool env u' = pool env u := by
    unfold pool
    rw [hK]
    apply List.map_congr_left
    intro q hq
    obtain ⟨h1, h2⟩ := hA q.1 q.2 hq
    rw [h1, h2]
  unfold Bd Wd at *
  rw [hp]
  exact hB
theorem w_new (hF : CallFix p m c cc nL s args TT own) (hB : Bd env s0 X u s H locs) {ci N index : Nat} {C : String} {T : u_T} {fs : List Value} (hc : vwCl[ci]? = some (C, T, N)) (hin : ∀ w ∈ u_ws C T N, w ∈ TT) (ty0 : Nat → FieldType) (hty : ∀ k, k < N → parseFieldDescriptor (T k).2.2.1 = some (ty0 k)) (hl : Cond.classLink own index C ∈ TT) (hi : Cond.instantiable C N ∈ TT) (hn : Cond.initialized C ∈ TT) (hfs : ∀ j, j < N → defaultValue (ty0 j) = vp_V fs j) (hcl : cells + 1 ≤ R.cells) (hsl : slots + N ≤ R.slots) (hdg : decode cc pc = .ok (.new index, 3)) (kk : ∀ q H, Bd env s0 ((q, .inr (ci, fs)) :: X) u s H locs → W p l e R s m args below meth c H locs (cells + 1) (slots + N) Q (F0 m (pc + 3) ls (.ref q :: rest))) : W p l e R s m args below meth c H locs cells slots Q (F0 m pc ls (rest)) := by
  refine va_new hF.1 hF.2.1 hF.2.2.2.2 hin ty0 hty hF.2.2.2.1 (hF.2.2.2.2 _ hl) (hF.2.2.2.2 _ hi) (hF.2.2.2.2 _ hn) hB.1.2.1 hB.1.1 hB.1.2.2 hB.2.1 (fun q h => Nat.le_trans hB.2.2.2.2 h) hc hfs hcl hsl hdg (fun q H1 hP hD hS => ?_)
  exact kk q H1 (Bd.front hP hB.1.2.1 hD hS hB.2.2)
theorem w_putX {ci N fk index : Nat} {fs : List Value} {C ref : String} {T : u_T} {v : Value} (fs' : List Value) (hF : CallFix p m c cc nL s args TT own) (hB : Bd env s0 ((a, .inr (ci, fs)) :: X) u s H locs) (hc : vwCl[ci]? = some (C, T, N)) (hin : ∀ w ∈ u_ws C T N, w ∈ TT) (ty0 : Nat → FieldType) (hty : ∀ k, k < N → parseFieldDescriptor (T k).2.2.1 = some (ty0 k)) (hnm : ∀ a, a < N → ∀ b, b < N → a ≠ b → (T a).2.1 ≠ (T b).2.1) (hfk : fk < N) (hl : Cond.fieldLink own index ref (T fk).2.1 (T fk).2.2.1 ∈ TT) (hsame : ∀ x, s.fieldFound? (T fk).1 (T fk).2.1 (T fk).2.2.1 = some x → s.fieldFound? ref (T fk).2.1 (T fk).2.2.1 = some x) (hfin : (T fk).2.2.2 = true) (hin2 : meth.name = "<init>") (hdecl : (T fk).1 = own) {ty : FieldType} (hd : parseFieldDescriptor (T fk).2.2.1 = some ty) (hnr : narrow ty v = v) (hfit : fits ty v = true) (hlen : fk < fs.length) (hfs : fs.set fk v = fs') (hdg : decode cc pc = .ok (.putfield index, 3)) (kk : ∀ H locs, Bd env s0 ((a, .inr (ci, fs')) :: X) u s H locs → W p l e R s m args below meth c H locs cells slots Q (F0 m (pc + 3) ls (rest))) : W p l e R s m args below meth c H locs cells slots Q (F0 m pc ls (v :: .ref a :: rest)) := by
  subst hfs
  refine va_putF hF.1 hF.2.1 hF.2.2.2.2 hin ty0 hty hnm hF.2.2.2.1 hB.1.2.1 hB.1.1 hB.1.2.2 hB.2.1 0 rfl hc fk hfk (hF.2.2.2.2 _ hl) hsame hfin hin2 hdecl hd hnr hfit hlen hdg (fun H1 locs1 hP hD hS => ?_)
  exact kk H1 locs1 ⟨⟨hP, hB.1.2.1, hD⟩, hS, hB.2.2⟩
theorem w_putY {ci N fk index : Nat} {fs : List Value} {C ref : String} {T : u_T} {v : Value} (fs' : List Value) (hF : CallFix p m c cc nL s args TT own) (hB : Bd env s0 ((a, .inr (ci, fs)) :: X) u s H locs) (hc : vwCl[ci]? = some (C, T, N)) (hin : ∀ w ∈ u_ws C T N, w ∈ TT) (ty0 : Nat → FieldType) (hty : ∀ k, k < N → parseFieldDescriptor (T k).2.2.1 = some (ty0 k)) (hnm : ∀ a, a < N → ∀ b, b < N → a ≠ b → (T a).2.1 ≠ (T b).2.1) (hfk : fk < N) (hl : Cond.fieldLink own index ref (T fk).2.1 (T fk).2.2.1 ∈ TT) (hsame : ∀ x, s.fieldFound? (T fk).1 (T fk).2.1 (T fk).2.2.1 = some x → s.fieldFound? ref (T fk).2.1 (T fk).2.2.1 = some x) (hfin : (T fk).2.2.2 = false) {ty : FieldType} (hd : parseFieldDescriptor (T fk).2.2.1 = some ty) (hnr : narrow ty v = v) (hfit : fits ty v = true) (hlen : fk < fs.length) (hfs : fs.set fk v = fs') (hdg : decode cc pc = .ok (.putfield index, 3)) (kk : ∀ H locs, Bd env s0 ((a, .inr (ci, fs')) :: X) u s H locs → W p l e R s m args below meth c H locs cells slots Q (F0 m (pc + 3) ls (rest))) : W p l e R s m args below meth c H locs cells slots Q (F0 m pc ls (v :: .ref a :: rest)) := by
  subst hfs
  refine va_put hF.1 hF.2.1 hF.2.2.2.2 hin ty0 hty hnm hF.2.2.2.1 hB.1.2.1 hB.1.1 hB.1.2.2 hB.2.1 0 rfl hc fk hfk (hF.2.2.2.2 _ hl) hsame hfin hd hnr hfit hlen hdg (fun H1 locs1 hP hD hS => ?_)
  exact kk H1 locs1 ⟨⟨hP, hB.1.2.1, hD⟩, hS, hB.2.2⟩
theorem w_getX {ci N fk index : Nat} {fs : List Value} {C ref : String} {T : u_T} {v : Value} (hF : CallFix p m c cc nL s args TT own) (hB : Bd env s0 ((a, .inr (ci, fs)) :: X) u s H locs) (hc : vwCl[ci]? = some (C, T, N)) (hin : ∀ w ∈ u_ws C T N, w ∈ TT) (hfk : fk < N) (hl : Cond.fieldLink own index ref (T fk).2.1 (T fk).2.2.1 ∈ TT) (hsame : (T fk).1 = ref) (hv : fs[fk]? = some v) (hdg : decode cc pc = .ok (.getfield index, 3)) (kk : W p l e R s m args below meth c H locs cells slots Q (F0 m (pc + 3) ls (v :: rest))) : W p l e R s m args below meth c H locs cells slots Q (F0 m pc ls (.ref a :: rest)) :=
  va_get hF.1 hF.2.1 hF.2.2.2.2 hin hF.2.2.2.1 hB.1.2.1 hB.1.1 0 rfl hc fk hfk (hF.2.2.2.2 _ hl) (fun x h => by rw [← hsame]; exact h) hv hdg kk
theorem w_newI (hF : CallFix p m c cc nL s args TT own) (hB : Bd env s0 X u s H locs) {n : Nat} (hw : Cond.arrayClass .int ∈ TT) (hn : n ≤ 20000) (hcl : cells + 1 ≤ R.cells) (hsl : slots + n ≤ R.slots) (hdg : decode cc pc = .ok (.newarray .int, 2)) (kk : ∀ q H, Bd env s0 ((q, .inl (env.2.1 0, n, .inl (fun _ => 0))) :: X) u s H locs → W p l e R s m args below meth c H locs (cells + 1) (slots + n) Q (F0 m (pc + 2) ls (.ref q :: rest))) : W p l e R s m args below meth c H locs cells slots Q (F0 m pc ls (.int (nI n) :: rest)) := by
  refine va_newa (atype := .int) (ty := .int) (a0 := (n, .inl (fun _ => 0))) hF.1 hF.2.1 (hF.2.2.2.2 _ hw) rfl hB.1.2.1 hB.1.1 hB.1.2.2 hB.2.1 (fun q h => Nat.le_trans hB.2.2.2.2 h) (fun _ => rfl) (nI_pos (by omega)) (nI_clamp (by omega)) (by show n * _ ≤ _; simp [componentBytes]; omega) hcl hsl hdg (fun q cA H1 hK hP hD hS => ?_)
  have e : cA = env.2.1 0 := by
    have h1 := va_nm_int (hK.2 5 _ rfl).2
    have h2 := va_nm_int (hB.1.2.1.2 0 _ rfl).2
    rw [h1] at h2
    exact Option.some.inj h2
  subst e
  exact kk q H1 (Bd.front hP hB.1.2.1 hD hS hB.2.2)
theorem w_newJ (hF : CallFix p m c cc nL s args TT own) (hB : Bd env s0 X u s H locs) {n : Nat} (hw : Cond.arrayClass .long ∈ TT) (hn : n ≤ 20000) (hcl : cells + 1 ≤ R.cells) (hsl : slots + n ≤ R.slots) (hdg : decode cc pc = .ok (.newarray .long, 2)) (kk : ∀ q H, Bd env s0 ((q, .inl (env.2.1 1, n, .inr (.inl (fun _ => 0)))) :: X) u s H locs → W p l e R s m args below meth c H locs (cells + 1) (slots + n) Q (F0 m (pc + 2) ls (.ref q :: rest))) : W p l e R s m args below meth c H locs cells slots Q (F0 m pc ls (.int (nI n) :: rest)) := by
  refine va_newa (atype := .long) (ty := .long) (a0 := (n, .inr (.inl (fun _ => 0)))) hF.1 hF.2.1 (hF.2.2.2.2 _ hw) rfl hB.1.2.1 hB.1.1 hB.1.2.2 hB.2.1 (fun q h => Nat.le_trans hB.2.2.2.2 h) (fun _ => rfl) (nI_pos (by omega)) (nI_clamp (by omega)) (by show n * _ ≤ _; simp [componentBytes]; omega) hcl hsl hdg (fun q cA H1 hK hP hD hS => ?_)
  have e : cA = env.2.1 1 := by
    have h1 := va_nm_long (hK.2 5 _ rfl).2
    have h2 := va_nm_long (hB.1.2.1.2 1 _ rfl).2
    rw [h1] at h2
    exact Option.some.inj h2
  subst e
  exact kk q H1 (Bd.front hP hB.1.2.1 hD hS hB.2.2)
theorem w_newZ (hF : CallFix p m c cc nL s args TT own) (hB : Bd env s0 X u s H locs) {n : Nat} (hw : Cond.arrayClass .boolean ∈ TT) (hn : n ≤ 20000) (hcl : cells + 1 ≤ R.cells) (hsl : slots + n ≤ R.slots) (hdg : decode cc pc = .ok (.newarray .boolean, 2)) (kk : ∀ q H, Bd env s0 ((q, .inl (env.2.1 2, n, .inl (fun _ => 0))) :: X) u s H locs → W p l e R s m args below meth c H locs (cells + 1) (slots + n) Q (F0 m (pc + 2) ls (.ref q :: rest))) : W p l e R s m args below meth c H locs cells slots Q (F0 m pc ls (.int (nI n) :: rest)) := by
  refine va_newa (atype := .boolean) (ty := .boolean) (a0 := (n, .inl (fun _ => 0))) hF.1 hF.2.1 (hF.2.2.2.2 _ hw) rfl hB.1.2.1 hB.1.1 hB.1.2.2 hB.2.1 (fun q h => Nat.le_trans hB.2.2.2.2 h) (fun _ => rfl) (nI_pos (by omega)) (nI_clamp (by omega)) (by show n * _ ≤ _; simp [componentBytes]; omega) hcl hsl hdg (fun q cA H1 hK hP hD hS => ?_)
  have e : cA = env.2.1 2 := by
    have h1 := va_nm_boolean (hK.2 5 _ rfl).2
    have h2 := va_nm_boolean (hB.1.2.1.2 2 _ rfl).2
    rw [h1] at h2
    exact Option.some.inj h2
  subst e
  exact kk q H1 (Bd.front hP hB.1.2.1 hD hS hB.2.2)
theorem w_clone (hF : CallFix p m c cc nL s args TT own) (hB : Bd env s0 X u s H locs) {n index : Nat} {f : Nat → Int32} (ha : At u k i a) (he : cn env u k i = .inl (env.2.1 0, n, .inl f)) (hls : ls.size = nL) (hl : Cond.methodLink own index ⟨"[I", "clone", "()Ljava/lang/Object;"⟩ ∈ TT) (h1 : Cond.sameMethod "[I" "java/lang/Object" "clone" "()Ljava/lang/Object;" ∈ TT) (h2 : Cond.native ⟨"java/lang/Object", "clone", "()Ljava/lang/Object;"⟩ ∈ TT) (h3 : Cond.instanceMethod ⟨"java/lang/Object", "clone", "()Ljava/lang/Object;"⟩ ∈ TT) (h4 : Cond.selects "[I" ⟨"[I", "clone", "()Ljava/lang/Object;"⟩ ⟨"java/lang/Object", "clone", "()Ljava/lang/Object;"⟩ ∈ TT) (h5 : Cond.castable "[I" "java/lang/Cloneable" ∈ TT) (hfr : 1 ≤ R.frames) (hlo : (rest.map fun v => v.category).sum + 14 ≤ R.locals) (hcl : cells + 1 ≤ R.cells) (hsl : slots + n ≤ R.slots) (hdg : decode cc pc = .ok (.invokevirtual index, 3)) (kk : ∀ q H, Bd env s0 ((q, .inl (env.2.1 0, n, .inl f)) :: X) u s H locs → W p l e R s m args below meth c H locs (cells + 1) (slots + n) Q (F0 m (pc + 3) ls (.ref q :: rest))) : W p l e R s m args below meth c H locs cells slots Q (F0 m pc ls (.ref a :: rest)) := by
  obtain ⟨n0, hn⟩ := pool_at (env := env) (X := X) ha
  rw [he] at hn
  refine va_clone hF.1 hF.2.1 (hF.2.2.1.trans hls.symm) hF.2.2.2.1 (hF.2.2.2.2 _ hl) (hF.2.2.2.2 _ h1) (hF.2.2.2.2 _ h2) (hF.2.2.2.2 _ h3) (hF.2.2.2.2 _ h4) (va_Nw.of rfl (hF.2.2.2.2 _ h5)) hB.1.2.1 hB.1.1 hB.1.2.2 hB.2.1 (fun q h => Nat.le_trans hB.2.2.2.2 h) n0 0 hn rfl (va_nm_int (hB.1.2.1.2 0 _ rfl).2) (va_fit (F := fun j => .int (f j)) (fun _ _ => rfl)) hfr hlo hcl hsl hdg (fun q H1 hK hP hD hS => ?_)
  exact kk q H1 (Bd.front hP hB.1.2.1 hD hS hB.2.2)
end AW

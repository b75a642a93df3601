section RW
variable {p : Program} {l : Launch} {e : Env} {R : Room} {s : State} {m : MethodId} {args : Array Value} {below : List Frame} {meth : Method} {c : Code} {H : Heap} {locs : List Loc} {cells slots : Nat} {Q : State → Prop} {cc : ByteArray} {nL : Nat} {own : String} {pc : Nat} {ls : Array Slot} {rest : List Value} {env : Ev} {s0 : Nat} {X : va_W} {u : St} {k i a : Nat}
theorem w_get (hF : CallFix p m c cc nL s args TT own) (hB : Bd env s0 X u s H locs) (ha : At u k i a) {ci N fk index : Nat} {fs : List Value} {C ref : String} {T : u_T} (he : cn env u k i = .inr (ci, fs)) (hc : vwCl[ci]? = some (C, T, N)) (hin : ∀ w ∈ u_ws C T N, w ∈ TT) (hfk : fk < N) (hl : Cond.fieldLink own index ref (T fk).2.1 (T fk).2.2.1 ∈ TT) (hsame : (T fk).1 = ref) {v : Value} (hv : fs[fk]? = some v) (hdg : decode cc pc = .ok (.getfield index, 3)) (kk : W p l e R s m args below meth c H locs cells slots Q (F0 m (pc + 3) ls (v :: rest))) : W p l e R s m args below meth c H locs cells slots Q (F0 m pc ls (.ref a :: rest)) := by
  obtain ⟨n, hn⟩ := pool_at (env := env) (X := X) ha
  rw [he] at hn
  exact va_get hF.1 hF.2.1 hF.2.2.2.2 hin hF.2.2.2.1 hB.1.2.1 hB.1.1 n hn hc fk hfk (hF.2.2.2.2 _ hl) (fun x h => by rw [← hsame]; exact h) hv hdg kk
theorem w_getN (hF : CallFix p m c cc nL s args TT own) (hB : Bd env s0 X u s H locs) (ha : At u k i a) {ci N fk index : Nat} {fs : List Value} {C ref : String} {host : String} {T : u_T} (he : cn env u k i = .inr (ci, fs)) (hc : vwCl[ci]? = some (C, T, N)) (hin : ∀ w ∈ u_ws C T N, w ∈ TT) (hfk : fk < N) (hl : Cond.fieldLinkNest own index ref (T fk).2.1 (T fk).2.2.1 host ∈ TT) (hsame : (T fk).1 = ref) {v : Value} (hv : fs[fk]? = some v) (hdg : decode cc pc = .ok (.getfield index, 3)) (kk : W p l e R s m args below meth c H locs cells slots Q (F0 m (pc + 3) ls (v :: rest))) : W p l e R s m args below meth c H locs cells slots Q (F0 m pc ls (.ref a :: rest)) := by
  obtain ⟨n, hn⟩ := pool_at (env := env) (X := X) ha
  rw [he] at hn
  exact va_getN hF.1 hF.2.1 hF.2.2.2.2 hin hF.2.2.2.1 hB.1.2.1 hB.1.1 n hn hc fk hfk (hF.2.2.2.2 _ hl) (fun x h => by rw [← hsame]; exact h) hv hdg kk
theorem w_getM (hF : CallFix p m c cc nL s args TT own) (hB : Bd env s0 X u s H locs) (ha : At u k i a) {ci N fk index : Nat} {fs : List Value} {C ref : String} {T : u_T} (he : cn env u k i = .inr (ci, fs)) (hc : vwCl[ci]? = some (C, T, N)) (hin : ∀ w ∈ u_ws C T N, w ∈ TT) (hfk : fk < N) (hl : Cond.fieldLink own index ref (T fk).2.1 (T fk).2.2.1 ∈ TT) (hsame : ∀ x, s.fieldFound? (T fk).1 (T fk).2.1 (T fk).2.2.1 = some x → s.fieldFound? ref (T fk).2.1 (T fk).2.2.1 = some x) {v : Value} (hv : fs[fk]? = some v) (hdg : decode cc pc = .ok (.getfield index, 3)) (kk : W p l e R s m args below meth c H locs cells slots Q (F0 m (pc + 3) ls (v :: rest))) : W p l e R s m args below meth c H locs cells slots Q (F0 m pc ls (.ref a :: rest)) := by
  obtain ⟨n, hn⟩ := pool_at (env := env) (X := X) ha
  rw [he] at hn
  exact va_get hF.1 hF.2.1 hF.2.2.2.2 hin hF.2.2.2.1 hB.1.2.1 hB.1.1 n hn hc fk hfk (hF.2.2.2.2 _ hl) hsame hv hdg kk
theorem w_put (hF : CallFix p m c cc nL s args TT own) (hB : Bd env s0 X u s H locs) (ha : At u k i a) {ci N fk index : Nat} {fs : List Value} {C ref : String} {T : u_T} (u' : St) (he : cn env u k i = .inr (ci, fs)) (hc : vwCl[ci]? = some (C, T, N)) (hin : ∀ w ∈ u_ws C T N, w ∈ TT) (ty0 : Nat → FieldType) (hty : ∀ k, k < N → parseFieldDescriptor (T k).2.2.1 = some (ty0 k)) (hnm : ∀ a, a < N → ∀ b, b < N → a ≠ b → (T a).2.1 ≠ (T b).2.1) (hfk : fk < N) (hl : Cond.fieldLink own index ref (T fk).2.1 (T fk).2.2.1 ∈ TT) (hsame : (T fk).1 = ref) (hfin : (T fk).2.2.2 = false) {ty : FieldType} {v : Value} (hd : parseFieldDescriptor (T fk).2.2.1 = some ty) (hnr : narrow ty v = v) (hfit : fits ty v = true) (hlen : fk < fs.length) (hs : sK u' = sK u) (hA : sA u' = sA u) (hcu : ∀ k' i', cn env u' k' i' = if k' = k ∧ i' = i then .inr (ci, fs.set fk v) else cn env u k' i') (hdg : decode cc pc = .ok (.putfield index, 3)) (kk : ∀ H locs, Bd env s0 X u' s H locs → W p l e R s m args below meth c H locs cells slots Q (F0 m (pc + 3) ls (rest))) : W p l e R s m args below meth c H locs cells slots Q (F0 m pc ls (v :: .ref a :: rest)) := by
  obtain ⟨n, hn⟩ := pool_at (env := env) (X := X) ha
  have hn0 := hn
  rw [he] at hn
  refine va_put hF.1 hF.2.1 hF.2.2.2.2 hin ty0 hty hnm hF.2.2.2.1 hB.1.2.1 hB.1.1 hB.1.2.2 hB.2.1 n hn hc fk hfk (hF.2.2.2.2 _ hl) (fun x h => by rw [← hsame]; exact h) hfin hd hnr hfit hlen hdg (fun H1 locs1 hP hD hS => ?_)
  rw [pool_set hB.1.2.2 ha hn0 hs hA hcu] at hP hD
  exact kk H1 locs1 ⟨⟨hP, hB.1.2.1, hD⟩, hS, hB.2.2⟩
theorem w_putN (hF : CallFix p m c cc nL s args TT own) (hB : Bd env s0 X u s H locs) (ha : At u k i a) {ci N fk index : Nat} {fs : List Value} {C ref : String} {host : String} {T : u_T} (u' : St) (he : cn env u k i = .inr (ci, fs)) (hc : vwCl[ci]? = some (C, T, N)) (hin : ∀ w ∈ u_ws C T N, w ∈ TT) (ty0 : Nat → FieldType) (hty : ∀ k, k < N → parseFieldDescriptor (T k).2.2.1 = some (ty0 k)) (hnm : ∀ a, a < N → ∀ b, b < N → a ≠ b → (T a).2.1 ≠ (T b).2.1) (hfk : fk < N) (hl : Cond.fieldLinkNest own index ref (T fk).2.1 (T fk).2.2.1 host ∈ TT) (hsame : (T fk).1 = ref) (hfin : (T fk).2.2.2 = false) {ty : FieldType} {v : Value} (hd : parseFieldDescriptor (T fk).2.2.1 = some ty) (hnr : narrow ty v = v) (hfit : fits ty v = true) (hlen : fk < fs.length) (hs : sK u' = sK u) (hA : sA u' = sA u) (hcu : ∀ k' i', cn env u' k' i' = if k' = k ∧ i' = i then .inr (ci, fs.set fk v) else cn env u k' i') (hdg : decode cc pc = .ok (.putfield index, 3)) (kk : ∀ H locs, Bd env s0 X u' s H locs → W p l e R s m args below meth c H locs cells slots Q (F0 m (pc + 3) ls (rest))) : W p l e R s m args below meth c H locs cells slots Q (F0 m pc ls (v :: .ref a :: rest)) := by
  obtain ⟨n, hn⟩ := pool_at (env := env) (X := X) ha
  have hn0 := hn
  rw [he] at hn
  refine va_putN hF.1 hF.2.1 hF.2.2.2.2 hin ty0 hty hnm hF.2.2.2.1 hB.1.2.1 hB.1.1 hB.1.2.2 hB.2.1 n hn hc fk hfk (hF.2.2.2.2 _ hl) (fun x h => by rw [← hsame]; exact h) hfin hd hnr hfit hlen hdg (fun H1 locs1 hP hD hS => ?_)
  rw [pool_set hB.1.2.2 ha hn0 hs hA hcu] at hP hD
  exact kk H1 locs1 ⟨⟨hP, hB.1.2.1, hD⟩, hS, hB.2.2⟩
theorem w_iald (hF : CallFix p m c cc nL s args TT own) (hB : Bd env s0 X u s H locs) (ha : At u k i a) {n j : Nat} {f : Nat → Int32} {v : Value} (he : cn env u k i = .inl (env.2.1 0, n, .inl f)) (hj : j < n) (hv : .int (f j) = v) (hn2 : n < 2 ^ 31) (hdg : decode cc pc = .ok (.iaload, 1)) (kk : W p l e R s m args below meth c H locs cells slots Q (F0 m (pc + 1) ls (v :: rest))) : W p l e R s m args below meth c H locs cells slots Q (F0 m pc ls (.int (nI j) :: .ref a :: rest)) := by
  obtain ⟨n0, hn⟩ := pool_at (env := env) (X := X) ha
  rw [he] at hn
  refine va_iald hF.1 hF.2.1 hB.1.2.1 hB.1.1 n0 0 hn rfl (vp_in_nI hj hn2) hdg ?_
  rw [nI_clamp (by omega), hv]
  exact kk
theorem w_zald (hF : CallFix p m c cc nL s args TT own) (hB : Bd env s0 X u s H locs) (ha : At u k i a) {n j : Nat} {f : Nat → Int32} {v : Value} (he : cn env u k i = .inl (env.2.1 2, n, .inl f)) (hj : j < n) (hv : .int (f j) = v) (hn2 : n < 2 ^ 31) (hdg : decode cc pc = .ok (.baload, 1)) (kk : W p l e R s m args below meth c H locs cells slots Q (F0 m (pc + 1) ls (v :: rest))) : W p l e R s m args below meth c H locs cells slots Q (F0 m pc ls (.int (nI j) :: .ref a :: rest)) := by
  obtain ⟨n0, hn⟩ := pool_at (env := env) (X := X) ha
  rw [he] at hn
  refine va_zald hF.1 hF.2.1 hB.1.2.1 hB.1.1 n0 2 hn rfl (vp_in_nI hj hn2) hdg ?_
  rw [nI_clamp (by omega), hv]
  exact kk
theorem w_lald (hF : CallFix p m c cc nL s args TT own) (hB : Bd env s0 X u s H locs) (ha : At u k i a) {n j : Nat} {f : Nat → Int64} {v : Value} (he : cn env u k i = .inl (env.2.1 1, n, .inr (.inl f))) (hj : j < n) (hv : .long (f j) = v) (hn2 : n < 2 ^ 31) (hdg : decode cc pc = .ok (.laload, 1)) (kk : W p l e R s m args below meth c H locs cells slots Q (F0 m (pc + 1) ls (v :: rest))) : W p l e R s m args below meth c H locs cells slots Q (F0 m pc ls (.int (nI j) :: .ref a :: rest)) := by
  obtain ⟨n0, hn⟩ := pool_at (env := env) (X := X) ha
  rw [he] at hn
  refine va_lald hF.1 hF.2.1 hB.1.2.1 hB.1.1 n0 1 hn rfl (vp_in_nI hj hn2) hdg ?_
  rw [nI_clamp (by omega), hv]
  exact kk
theorem w_aldS (hF : CallFix p m c cc nL s args TT own) (hB : Bd env s0 X u s H locs) (ha : At u k i a) {n j : Nat} {f : Nat → Option Nat} {v : Value} (he : cn env u k i = .inl (env.2.1 3, n, .inr (.inr (.inr (.inr f))))) (hj : j < n) (hv : va_rf (f j) = v) (hn2 : n < 2 ^ 31) (hdg : decode cc pc = .ok (.aaload, 1)) (kk : W p l e R s m args below meth c H locs cells slots Q (F0 m (pc + 1) ls (v :: rest))) : W p l e R s m args below meth c H locs cells slots Q (F0 m pc ls (.int (nI j) :: .ref a :: rest)) := by
  obtain ⟨n0, hn⟩ := pool_at (env := env) (X := X) ha
  rw [he] at hn
  refine va_aldq hF.1 hF.2.1 hB.1.2.1 hB.1.1 n0 3 hn rfl (vp_in_nI hj hn2) hdg ?_
  rw [nI_clamp (by omega), hv]
  exact kk
theorem w_aldO (hF : CallFix p m c cc nL s args TT own) (hB : Bd env s0 X u s H locs) (ha : At u k i a) {n j : Nat} {f : Nat → Option Nat} {v : Value} (he : cn env u k i = .inl (env.2.1 4, n, .inr (.inr (.inr (.inr f))))) (hj : j < n) (hv : va_rf (f j) = v) (hn2 : n < 2 ^ 31) (hdg : decode cc pc = .ok (.aaload, 1)) (kk : W p l e R s m args below meth c H locs cells slots Q (F0 m (pc + 1) ls (v :: rest))) : W p l e R s m args below meth c H locs cells slots Q (F0 m pc ls (.int (nI j) :: .ref a :: rest)) := by
  obtain ⟨n0, hn⟩ := pool_at (env := env) (X := X) ha
  rw [he] at hn
  refine va_aldq hF.1 hF.2.1 hB.1.2.1 hB.1.1 n0 4 hn rfl (vp_in_nI hj hn2) hdg ?_
  rw [nI_clamp (by omega), hv]
  exact kk
theorem w_iast (hF : CallFix p m c cc nL s args TT own) (hB : Bd env s0 X u s H locs) (ha : At u k i a) {n j : Nat} {f : Nat → Int32} {x : Int32} (u' : St) (he : cn env u k i = .inl (env.2.1 0, n, .inl f)) (hj : j < n) (hn2 : n < 2 ^ 31) (hs : sK u' = sK u) (hA : sA u' = sA u) (hcu : ∀ k' i', cn env u' k' i' = if k' = k ∧ i' = i then .inl (env.2.1 0, n, .inl (upd f j x)) else cn env u k' i') (hdg : decode cc pc = .ok (.iastore, 1)) (kk : ∀ H locs, Bd env s0 X u' s H locs → W p l e R s m args below meth c H locs cells slots Q (F0 m (pc + 1) ls (rest))) : W p l e R s m args below meth c H locs cells slots Q (F0 m pc ls (.int x :: .int (nI j) :: .ref a :: rest)) := by
  obtain ⟨n0, hn⟩ := pool_at (env := env) (X := X) ha
  have hn0 := hn
  rw [he] at hn
  refine va_iast hF.1 hF.2.1 hB.1.2.1 hB.1.1 hB.1.2.2 hB.2.1 n0 0 hn rfl (vp_in_nI hj hn2) hdg (fun H1 locs1 hP hD hS => ?_)
  rw [nI_clamp (by omega)] at hP hD
  rw [pool_set hB.1.2.2 ha hn0 hs hA hcu] at hP hD
  exact kk H1 locs1 ⟨⟨hP, hB.1.2.1, hD⟩, hS, hB.2.2⟩
theorem w_zast (hF : CallFix p m c cc nL s args TT own) (hB : Bd env s0 X u s H locs) (ha : At u k i a) {n j : Nat} {f : Nat → Int32} {x : Int32} (u' : St) (he : cn env u k i = .inl (env.2.1 2, n, .inl f)) (hj : j < n) (hn2 : n < 2 ^ 31) (hz : vp_nar .boolean x = x) (hs : sK u' = sK u) (hA : sA u' = sA u) (hcu : ∀ k' i', cn env u' k' i' = if k' = k ∧ i' = i then .inl (env.2.1 2, n, .inl (upd f j x)) else cn env u k' i') (hdg : decode cc pc = .ok (.bastore, 1)) (kk : ∀ H locs, Bd env s0 X u' s H locs → W p l e R s m args below meth c H locs cells slots Q (F0 m (pc + 1) ls (rest))) : W p l e R s m args below meth c H locs cells slots Q (F0 m pc ls (.int x :: .int (nI j) :: .ref a :: rest)) := by
  obtain ⟨n0, hn⟩ := pool_at (env := env) (X := X) ha
  have hn0 := hn
  rw [he] at hn
  refine va_zast hF.1 hF.2.1 hB.1.2.1 hB.1.1 hB.1.2.2 hB.2.1 n0 2 hn rfl (vp_in_nI hj hn2) hdg (fun H1 locs1 hP hD hS => ?_)
  rw [nI_clamp (by omega), hz] at hP hD
  rw [pool_set hB.1.2.2 ha hn0 hs hA hcu] at hP hD
  exact kk H1 locs1 ⟨⟨hP, hB.1.2.1, hD⟩, hS, hB.2.2⟩
theorem w_last (hF : CallFix p m c cc nL s args TT own) (hB : Bd env s0 X u s H locs) (ha : At u k i a) {n j : Nat} {f : Nat → Int64} {x : Int64} (u' : St) (he : cn env u k i = .inl (env.2.1 1, n, .inr (.inl f))) (hj : j < n) (hn2 : n < 2 ^ 31) (hs : sK u' = sK u) (hA : sA u' = sA u) (hcu : ∀ k' i', cn env u' k' i' = if k' = k ∧ i' = i then .inl (env.2.1 1, n, .inr (.inl (vp_updL f j x))) else cn env u k' i') (hdg : decode cc pc = .ok (.lastore, 1)) (kk : ∀ H locs, Bd env s0 X u' s H locs → W p l e R s m args below meth c H locs cells slots Q (F0 m (pc + 1) ls (rest))) : W p l e R s m args below meth c H locs cells slots Q (F0 m pc ls (.long x :: .int (nI j) :: .ref a :: rest)) := by
  obtain ⟨n0, hn⟩ := pool_at (env := env) (X := X) ha
  have hn0 := hn
  rw [he] at hn
  refine va_last hF.1 hF.2.1 hB.1.2.1 hB.1.1 hB.1.2.2 hB.2.1 n0 1 hn rfl (vp_in_nI hj hn2) hdg (fun H1 locs1 hP hD hS => ?_)
  rw [nI_clamp (by omega)] at hP hD
  rw [pool_set hB.1.2.2 ha hn0 hs hA hcu] at hP hD
  exact kk H1 locs1 ⟨⟨hP, hB.1.2.1, hD⟩, hS, hB.2.2⟩
end RW

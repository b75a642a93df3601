/-! commit, deliver, all: as functions of the class's store -/
def cCmL (c : Lg) (t : Nat) : Lg := uN (cLock c t (gN c 26 t 0) (gN c 3 0 0)) 16 t 0 1
def cCmH (c : Lg) (t : Nat) : Lg := cToH (cCmL c t) t 0 (gN (cCmL c t) 0 0 0)
def cCmA (c : Lg) (t : Nat) : Lg := uN (cCmH c t) 18 t 0 (cToHn (cCmL c t) t 0 (gN (cCmL c t) 0 0 0))
def cCm (c : Lg) (t : Nat) : Lg := if cAllFree c t (gN c 26 t 0) = true then (if cElse c t = true then cCmA c t else cMk c t) else uN c 16 t 0 3
def ccommit (c : Lg) (v : Int32) : Int32 × Lg := match ix v (gN c 3 1 0) with
  | none => (-1, c)
  | some t => if gN c 16 t 0 = 0 then (nI (gN (cCm c t) 16 t 0), cCm c t) else (-2, c)
theorem cCmL_N (c : Lg) (t : Nat) {n : Nat} (h : n ≠ 16) : gN (cCmL c t) n = gN c n := by unfold cCmL; rw [gN_f _ _ _ _ _ h, cLock_N]
theorem kc_cmL (c : Lg) (t : Nat) : kc (cCmL c t) = kc c ∧ ks (cCmL c t) = ks c := kc_N (cCmL_N _ _ (by decide)) (cCmL_N _ _ (by decide))
theorem kc_cmA (c : Lg) (t : Nat) : kc (cCmA c t) = kc (cCmH c t) ∧ ks (cCmA c t) = ks (cCmH c t) := kc_N (gN_f _ _ _ _ _ (by decide)) (gN_f _ _ _ _ _ (by decide))
theorem kc_cmH (c : Lg) (t : Nat) : kc c ≤ kc (cCmH c t) ∧ ks c ≤ ks (cCmH c t) := by
  have h1 := kc_cmL c t
  have h2 := cToH_kn (cCmL c t) t 0 (Nat.zero_le (gN (cCmL c t) 0 0 0))
  have h3 : cToH (cCmL c t) t 0 0 = cCmL c t := rfl
  rw [h3] at h2; unfold cCmH; omega
theorem kc_16 (c : Lg) (t v : Nat) : kc (uN c 16 t 0 v) = kc c ∧ ks (uN c 16 t 0 v) = ks c := kc_N (gN_f _ _ _ _ _ (by decide)) (gN_f _ _ _ _ _ (by decide))
theorem nb_cm {c : Lg} {t : Nat} (h : Nb c) (hok : Okm c) (hs : gN c 26 t 0 < 4) (ht : t < 1000) (hn : gN c 0 0 0 ≤ 4) : Nb (cCm c t) := by
  have h1 : Nb (cCmL c t) := Nb.uN (Nb.ofN (cLock_N _ _ _ _) h) (by decide)
  unfold cCm; split
  · split
    · refine Nb.uN (cToH_Nb _ _ _ h1 ?_ (by decide) ht ?_ _ ?_) ?_
      · exact Rb.N (by rw [cCmL_N _ _ (by decide)]) (cCmL_N _ _ (by decide)) hok.1
      · rw [cCmL_N _ _ (by decide)]; exact hs
      · rw [cCmL_N _ _ (by decide)]; exact hn
      · have := cToHn_le (cCmL c t) t 0 (gN (cCmL c t) 0 0 0)
        rw [cCmL_N _ _ (by decide)] at *; omega
    · exact Nb.mk h hok hs ht hn
  · exact Nb.uN h (by decide)
theorem nb_rem {c : Lg} {j : Nat} (h : Nb c) : Nb (cRem c j) := by
  intro f a b
  by_cases h31 : f = 31
  · subst h31
    show (if 31 = 31 then (fun i x => if i = 0 ∧ j ≤ x then gN c 31 0 (x + 1) else gN c 31 i x) else up3 (gN c) 3 2 0 (gN c 3 2 0 - 1) 31) a b < _
    rw [if_pos rfl]; show (if a = 0 ∧ j ≤ b then gN c 31 0 (b + 1) else gN c 31 a b) < _
    split <;> exact h _ _ _
  · by_cases h3 : f = 3
    · subst h3; rw [cRem_3]; split
      · have := h 3 2 0; omega
      · exact h _ _ _
    · rw [cRem_N _ _ ⟨h3, h31⟩]; exact h _ _ _
theorem kc_rem (c : Lg) (j : Nat) : kc (cRem c j) = kc c ∧ ks (cRem c j) = ks c := by
  unfold kc ks; simp only [cRem_3, cRem_N c j (n := 32) (by decide)]; simp
theorem Okm.rem {c : Lg} (h : Okm c) (j : Nat) : Okm (cRem c j) := by
  refine ⟨?_, fun w hw => ?_, fun w i => ?_⟩
  · have := h.1; unfold Rb at *; rw [cRem_3, cRem_N _ _ (by decide)]; simp; omega
  · rw [cRem_3, if_neg (by omega)]; exact h.2.1 w hw
  · rw [cRem_N _ _ (by decide)]; exact h.2.2 w i
theorem Okc.rem {c : Lg} (h : Okc c) (j : Nat) : Okc (cRem c j) := ⟨h.1.rem j, fun t => by rw [cRem_N _ _ (by decide), cRem_N _ _ (by decide)]; exact h.2 t⟩
theorem Bd.rem {env : Ev} {s0 : Nat} {X : va_W} {u : St} {s : State} {H : Heap} {locs : List Loc} {j : Nat} (hB : Bd env s0 X (rmF u 2 j) s H locs) : Bd env s0 X (wC (rmF u 2 j) (cRem u.2.1 j)) s H locs :=
  hB.ghost rfl (fun k i _ => ⟨rfl, cn_gh env (rmF u 2 j) (cRem u.2.1 j) (fun f hf => by
    show (if f = 31 then _ else up3 (gN u.2.1) 3 2 0 (gN u.2.1 3 2 0 - 1) f) = _
    rw [if_neg (by omega)]; rfl) rfl k i⟩)
theorem SZ.rem' {env : Ev} {ph0 : Ph} {c m : Lg} {j : Nat} (hZ : SZ env (ph0, c, m)) (hj : j < gN c 3 2 0) : ∃ ph : Ph, (∀ (s0 : Nat) (X : va_W) (s : State) (H : Heap) (locs : List Loc), Bd env s0 X (rmF (ph0, c, m) 2 j) s H locs → Bd env s0 X (ph, cRem c j, m) s H locs) ∧ SZ env (ph, cRem c j, m) ∧ Kp (ph0, c, m) (ph, cRem c j, m) :=
  ⟨(rmF (ph0, c, m) 2 j).1, fun _ _ _ _ _ hB => Bd.rem hB, hZ.rem hj⟩
def cDl (c : Lg) (i : Nat) : Lg := cRecv (cRem c i) (gN c 31 0 i)
def cdeliver (c : Lg) (v : Int32) : Int32 × Lg := match ix v (gN c 3 2 0) with
  | none => (-1, c)
  | some i => if cCanCome c (gN c 31 0 i) = true then (nI (gN (cDl c i) 21 (gN c 31 0 i) 0), cDl c i) else (-2, c)
def cAllS (c : Lg) : Lg := match cFirst c with
  | none => c
  | some i => cDl c i
def cAll (c : Lg) : Nat → Lg
  | 0 => c
  | i + 1 => cAllS (cAll c i)
theorem cAll_s (c : Lg) (i : Nat) : cAll c (i + 1) = cAllS (cAll c i) := rfl
def cAllK (c : Lg) : Nat → Nat
  | 0 => 0
  | i + 1 => cAllK c i + (if (cFirst (cAll c i)).isSome = true then 1 else 0)
theorem cAllK_s (c : Lg) (i : Nat) : cAllK c (i + 1) = cAllK c i + (if (cFirst (cAll c i)).isSome = true then 1 else 0) := rfl
theorem cAllS_none {c : Lg} (h : cFirst c = none) : cAllS c = c := by unfold cAllS; rw [h]
theorem cAllS_some {c : Lg} {i : Nat} (h : cFirst c = some i) : cAllS c = cDl c i := by unfold cAllS; rw [h]
theorem cAll_stop {c : Lg} {i : Nat} (h : cFirst (cAll c i) = none) : ∀ k, cAll c (i + k) = cAll c i ∧ cAllK c (i + k) = cAllK c i
  | 0 => ⟨rfl, rfl⟩
  | k + 1 => by
    obtain ⟨h1, h2⟩ := cAll_stop h k
    have e : cAll c (i + (k + 1)) = cAllS (cAll c (i + k)) := rfl
    have e2 : cAllK c (i + (k + 1)) = cAllK c (i + k) + (if (cFirst (cAll c (i + k))).isSome = true then 1 else 0) := rfl
    rw [e, e2, h1, h2, cAllS_none h, h]; exact ⟨rfl, rfl⟩
def call (c : Lg) (v : Int32) : Int32 × Lg := match ix v 501 with
  | none => (-1, c)
  | some n => (nI (cAllK c n), cAll c n)
theorem ix_501 {v : Int32} (h : ¬ v ≤ nI 500) : ix v 501 = none := by
  unfold ix; rw [if_neg]
  rintro ⟨h0, h1⟩; apply h
  rw [Int32.le_iff_toInt_le, nI_toInt (by decide)]; omega
theorem in_501 {v : Int32} (h0 : ¬ v < 0) (h1 : v ≤ nI 500) : ∃ j : Nat, j < 501 ∧ v = nI j := ix_in (by decide) h0 (fun h => absurd (Int32.le_trans h h1) (by decide))
theorem ix_m4 (n : Nat) : ix (-4) n = none := ix_lt (by decide)

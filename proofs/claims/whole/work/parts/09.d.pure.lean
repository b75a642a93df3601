/-! the class's writers with new objects, as functions of its store -/
def kc (c : Lg) : Nat := 2 * gN c 32 0 0 + (gN c 3 3 0 + gN c 3 4 0 + gN c 3 5 0 + gN c 3 6 0) + 8 * gN c 3 1 0 + 2 * gN c 3 0 0
def ks (c : Lg) : Nat := 2744 * gN c 32 0 0 + 320 * (gN c 3 3 0 + gN c 3 4 0 + gN c 3 5 0 + gN c 3 6 0) + 500 * gN c 3 1 0 + 100 * gN c 3 0 0
def Rb (c : Lg) (n : Nat) : Prop := gN c 3 2 0 + n ≤ 1365 ∧ gN c 32 0 0 + n ≤ 5000
theorem kc_N {c c' : Lg} (h3 : gN c' 3 = gN c 3) (h32 : gN c' 32 = gN c 32) : kc c' = kc c ∧ ks c' = ks c := by unfold kc ks; rw [h3, h32]; exact ⟨rfl, rfl⟩
theorem cPost_3 (c : Lg) (x f t o i j : Nat) : gN (cPost c x f t o) 3 i j = if i = 2 ∧ j = 0 then gN c 3 2 0 + 1 else gN c 3 i j := by
  unfold cPost; rw [gN_uN, cPq_N _ _ _ _ _ (by decide)]; simp
theorem cPost_32 (c : Lg) (x f t o : Nat) : gN (cPost c x f t o) 32 0 0 = gN c 32 0 0 + 1 := by unfold cPost cPq gM; simp [gN_uN]
theorem kc_post (c : Lg) (x f t o : Nat) : kc (cPost c x f t o) = kc c + 2 ∧ ks (cPost c x f t o) = ks c + 2744 := by
  unfold kc ks; simp only [cPost_3, cPost_32]; simp; omega
theorem Rb.post {c : Lg} {n : Nat} (h : Rb c (n + 1)) (x f t o : Nat) : Rb (cPost c x f t o) n := by
  unfold Rb at *; rw [cPost_3, cPost_32]; simp; omega
theorem Rb.le {c : Lg} {n k : Nat} (h : Rb c n) (hk : k ≤ n) : Rb c k := by unfold Rb at *; omega
theorem Rb.N {c c' : Lg} {n : Nat} (h3 : gN c' 3 2 0 = gN c 3 2 0) (h32 : gN c' 32 = gN c 32) (h : Rb c n) : Rb c' n := by unfold Rb at *; rw [h3, h32]; exact h
theorem Nb.post {c : Lg} (h : Nb c) (hr : Rb c 1) {x f t o : Nat} (hx : x < 6) (hf : f < 4) (ht : t < 4) (ho : o < 1000) : Nb (cPost c x f t o) := by
  unfold Rb at hr
  unfold cPost cPq gM
  exact Nb.uN (Nb.uN (Nb.uN (Nb.uN (Nb.uN (Nb.uN (Nb.uN h (by omega)) (by omega)) (by omega)) (by omega)) (by omega)) (by omega)) (by omega)
def cT1 (c : Lg) (w t : Nat) : Lg := uN c 6 w (gN c 26 t 0) (gN c 6 w (gN c 26 t 0) + 1)
def cTake (c : Lg) (w t : Nat) : Lg := cUnlock (cIn (cT1 c w t) w t) w t 12
theorem cTake_N (c : Lg) (w t : Nat) {n : Nat} (h : n ≠ 3 ∧ n ≠ 30 ∧ n ≠ 6) : gN (cTake c w t) n = gN c n := by
  unfold cTake cT1; rw [cUnlock_N, cIn_N _ _ _ ⟨h.1, h.2.1⟩, gN_f _ _ _ _ _ h.2.2]
theorem cTake_3 (c : Lg) (w t i j : Nat) : gN (cTake c w t) 3 i j = if i = 3 + w ∧ j = 0 then gN c 3 (3 + w) 0 + 1 else gN c 3 i j := by
  unfold cTake cIn cT1; rw [cUnlock_N, gN_uN]; simp [gN_uN]
theorem kc_take (c : Lg) {w : Nat} (t : Nat) (hw : w < 4) : kc (cTake c w t) = kc c + 1 ∧ ks (cTake c w t) = ks c + 320 := by
  unfold kc ks; simp only [cTake_3, cTake_N c w t (n := 32) (by decide)]
  match w, hw with
  | 0, _ => simp; omega
  | 1, _ => simp; omega
  | 2, _ => simp; omega
  | 3, _ => simp; omega
theorem Nb.take {c : Lg} (h : Nb c) {w t : Nat} (h6 : gN c 6 w (gN c 26 t 0) < 1000) (h3 : gN c 3 (3 + w) 0 ≤ 150) (ht : t < 1000) : Nb (cTake c w t) := by
  unfold cTake
  refine Nb.ofN (cUnlock_N _ _ _ _) ?_
  unfold cIn cT1
  refine Nb.uN (Nb.uN (Nb.uN h (by omega)) (by omega)) ?_
  rw [gN_f _ _ _ _ _ (by decide)]; omega
/-! telling the homes, telling the others -/
def cToH (c : Lg) (t x : Nat) : Nat → Lg
  | 0 => c
  | i + 1 => if cHeQ (cToH c t x i) t i = true then cPost (cToH c t x i) x (gN (cToH c t x i) 26 t 0) i t else cToH c t x i
def cToHn (c : Lg) (t x : Nat) : Nat → Nat
  | 0 => 0
  | i + 1 => cToHn c t x i + (if cHeQ (cToH c t x i) t i = true then 1 else 0)
def cToO (c : Lg) (t x : Nat) : Nat → Lg
  | 0 => c
  | i + 1 => if i = gN (cToO c t x i) 26 t 0 then cToO c t x i else cPost (cToO c t x i) x (gN (cToO c t x i) 26 t 0) i t
theorem cToHn_le (c : Lg) (t x : Nat) : ∀ i, cToHn c t x i ≤ i
  | 0 => Nat.le_refl 0
  | i + 1 => by have := cToHn_le c t x i; unfold cToHn; split <;> omega
theorem cToH_N (c : Lg) (t x : Nat) {n : Nat} (h : n ≠ 3 ∧ n ≠ 21 ∧ n ≠ 22 ∧ n ≠ 23 ∧ n ≠ 24 ∧ n ≠ 31 ∧ n ≠ 32) : ∀ i, gN (cToH c t x i) n = gN c n
  | 0 => rfl
  | i + 1 => by
    unfold cToH; split
    · first | exact cToH_N c t x h i | (rw [cPost_N _ _ _ _ _ h]; exact cToH_N c t x h i)
    · first | exact cToH_N c t x h i | (rw [cPost_N _ _ _ _ _ h]; exact cToH_N c t x h i)
theorem cToH_3 (c : Lg) (t x : Nat) {q : Nat} (hq : q ≠ 2) : ∀ i, gN (cToH c t x i) 3 q 0 = gN c 3 q 0
  | 0 => rfl
  | i + 1 => by
    unfold cToH; split
    · first | exact cToH_3 c t x hq i | (rw [cPost_3, if_neg (fun h => hq h.1)]; exact cToH_3 c t x hq i)
    · first | exact cToH_3 c t x hq i | (rw [cPost_3, if_neg (fun h => hq h.1)]; exact cToH_3 c t x hq i)
theorem cToH_B (c : Lg) (t x : Nat) : ∀ i, (cToH c t x i).2 = c.2
  | 0 => rfl
  | i + 1 => by
    unfold cToH; split
    · exact cToH_B c t x i
    · exact cToH_B c t x i
theorem cToH_k (c : Lg) (t x i : Nat) : kc (cToH c t x i) ≤ kc (cToH c t x (i + 1)) ∧ ks (cToH c t x i) ≤ ks (cToH c t x (i + 1)) := by
  show _ ≤ kc (if _ then _ else _) ∧ _ ≤ ks (if _ then _ else _)
  split
  · first | exact ⟨Nat.le_refl _, Nat.le_refl _⟩ | (rw [(kc_post _ _ _ _ _).1, (kc_post _ _ _ _ _).2]; omega)
  · first | exact ⟨Nat.le_refl _, Nat.le_refl _⟩ | (rw [(kc_post _ _ _ _ _).1, (kc_post _ _ _ _ _).2]; omega)
theorem cToH_kn (c : Lg) (t x : Nat) {i n : Nat} (h : i ≤ n) : kc (cToH c t x i) ≤ kc (cToH c t x n) ∧ ks (cToH c t x i) ≤ ks (cToH c t x n) := by
  induction n with
  | zero => rw [show i = 0 by omega]; exact ⟨Nat.le_refl _, Nat.le_refl _⟩
  | succ n ih =>
    by_cases z : i = n + 1
    · rw [z]; exact ⟨Nat.le_refl _, Nat.le_refl _⟩
    · have := cToH_k c t x n
      have := ih (by omega)
      omega
theorem cToH_R (c : Lg) (t x : Nat) {n : Nat} (h : Rb c n) : ∀ i, i ≤ n → Rb (cToH c t x i) (n - i)
  | 0, _ => h
  | i + 1, hi => by
    have := cToH_R c t x h i (by omega)
    unfold cToH; split
    · first | exact Rb.le this (by omega) | exact Rb.post (by rw [show n - (i + 1) + 1 = n - i by omega]; exact this) _ _ _ _
    · first | exact Rb.le this (by omega) | exact Rb.post (by rw [show n - (i + 1) + 1 = n - i by omega]; exact this) _ _ _ _
theorem cToH_Nb (c : Lg) (t x : Nat) (hN : Nb c) (hr : Rb c 4) (hx : x < 6) (ht : t < 1000) (h26 : gN c 26 t 0 < 4) : ∀ i, i ≤ 4 → Nb (cToH c t x i)
  | 0, _ => hN
  | i + 1, hi => by
    have h1 := cToH_Nb c t x hN hr hx ht h26 i (by omega)
    have h2 := cToH_R c t x hr i (by omega)
    have h3 : gN (cToH c t x i) 26 t 0 < 4 := by rw [cToH_N _ _ _ (by decide)]; exact h26
    unfold cToH; split
    · first | exact h1 | exact Nb.post h1 (Rb.le h2 (by omega)) hx h3 (by omega) ht
    · first | exact h1 | exact Nb.post h1 (Rb.le h2 (by omega)) hx h3 (by omega) ht
theorem cToO_N (c : Lg) (t x : Nat) {n : Nat} (h : n ≠ 3 ∧ n ≠ 21 ∧ n ≠ 22 ∧ n ≠ 23 ∧ n ≠ 24 ∧ n ≠ 31 ∧ n ≠ 32) : ∀ i, gN (cToO c t x i) n = gN c n
  | 0 => rfl
  | i + 1 => by
    unfold cToO; split
    · first | exact cToO_N c t x h i | (rw [cPost_N _ _ _ _ _ h]; exact cToO_N c t x h i)
    · first | exact cToO_N c t x h i | (rw [cPost_N _ _ _ _ _ h]; exact cToO_N c t x h i)
theorem cToO_3 (c : Lg) (t x : Nat) {q : Nat} (hq : q ≠ 2) : ∀ i, gN (cToO c t x i) 3 q 0 = gN c 3 q 0
  | 0 => rfl
  | i + 1 => by
    unfold cToO; split
    · first | exact cToO_3 c t x hq i | (rw [cPost_3, if_neg (fun h => hq h.1)]; exact cToO_3 c t x hq i)
    · first | exact cToO_3 c t x hq i | (rw [cPost_3, if_neg (fun h => hq h.1)]; exact cToO_3 c t x hq i)
theorem cToO_B (c : Lg) (t x : Nat) : ∀ i, (cToO c t x i).2 = c.2
  | 0 => rfl
  | i + 1 => by
    unfold cToO; split
    · exact cToO_B c t x i
    · exact cToO_B c t x i
theorem cToO_k (c : Lg) (t x i : Nat) : kc (cToO c t x i) ≤ kc (cToO c t x (i + 1)) ∧ ks (cToO c t x i) ≤ ks (cToO c t x (i + 1)) := by
  show _ ≤ kc (if _ then _ else _) ∧ _ ≤ ks (if _ then _ else _)
  split
  · first | exact ⟨Nat.le_refl _, Nat.le_refl _⟩ | (rw [(kc_post _ _ _ _ _).1, (kc_post _ _ _ _ _).2]; omega)
  · first | exact ⟨Nat.le_refl _, Nat.le_refl _⟩ | (rw [(kc_post _ _ _ _ _).1, (kc_post _ _ _ _ _).2]; omega)
theorem cToO_kn (c : Lg) (t x : Nat) {i n : Nat} (h : i ≤ n) : kc (cToO c t x i) ≤ kc (cToO c t x n) ∧ ks (cToO c t x i) ≤ ks (cToO c t x n) := by
  induction n with
  | zero => rw [show i = 0 by omega]; exact ⟨Nat.le_refl _, Nat.le_refl _⟩
  | succ n ih =>
    by_cases z : i = n + 1
    · rw [z]; exact ⟨Nat.le_refl _, Nat.le_refl _⟩
    · have := cToO_k c t x n
      have := ih (by omega)
      omega
theorem cToO_R (c : Lg) (t x : Nat) {n : Nat} (h : Rb c n) : ∀ i, i ≤ n → Rb (cToO c t x i) (n - i)
  | 0, _ => h
  | i + 1, hi => by
    have := cToO_R c t x h i (by omega)
    unfold cToO; split
    · first | exact Rb.le this (by omega) | exact Rb.post (by rw [show n - (i + 1) + 1 = n - i by omega]; exact this) _ _ _ _
    · first | exact Rb.le this (by omega) | exact Rb.post (by rw [show n - (i + 1) + 1 = n - i by omega]; exact this) _ _ _ _
theorem cToO_Nb (c : Lg) (t x : Nat) (hN : Nb c) (hr : Rb c 4) (hx : x < 6) (ht : t < 1000) (h26 : gN c 26 t 0 < 4) : ∀ i, i ≤ 4 → Nb (cToO c t x i)
  | 0, _ => hN
  | i + 1, hi => by
    have h1 := cToO_Nb c t x hN hr hx ht h26 i (by omega)
    have h2 := cToO_R c t x hr i (by omega)
    have h3 : gN (cToO c t x i) 26 t 0 < 4 := by rw [cToO_N _ _ _ (by decide)]; exact h26
    unfold cToO; split
    · first | exact h1 | exact Nb.post h1 (Rb.le h2 (by omega)) hx h3 (by omega) ht
    · first | exact h1 | exact Nb.post h1 (Rb.le h2 (by omega)) hx h3 (by omega) ht
theorem SZ.mkPa {env : Ev} {u : St} {a x f t o : Nat} (hZ : SZ env u) : PI env (mkP u a x f t o) ∧ (∀ j y, j < gN (mkP u a x f t o).2.1 3 2 0 → sE (mkP u a x f t o) (sM (mkP u a x f t o) 2 2) j = some y → Obj (mkP u a x f t o) y) ∧ Obj (mkP u a x f t o) a ∧ Kp u (mkP u a x f t o) ∧ gN (mkP u a x f t o).2.1 3 2 0 = gN u.2.1 3 2 0 := by
  obtain ⟨hI, hX⟩ := hZ
  have hfr : (14, gN u.2.1 32 0 0) ∉ sK u := fun z => by have := hX.1 _ z; omega
  have e3 : gN (cPq u.2.1 x f t o) 3 = gN u.2.1 3 := cPq_N _ _ _ _ _ (by decide)
  have hK : Kp u (mkP u a x f t o) := by
    intro k i _ h
    refine ⟨List.mem_append_left _ h, ?_⟩
    exact (cn_mkM ((fun _ => 0, fun _ _ => 0), fun _ => 0, 0, 0) u a (gN u.2.1 32 0 0) x f t o hfr k i h).1
  refine ⟨hI.pi.mk (fun f hf => rfl) (fun z => rfl) (fun k j hk => ?_) e3, fun j y hj hy => ?_, ⟨14, gN u.2.1 32 0 0, Or.inr (Or.inr rfl), List.mem_append_right _ (List.mem_singleton.mpr rfl), ?_⟩, hK, by show gN (cPq u.2.1 x f t o) 3 2 0 = _; rw [e3]⟩
  · show (k, j) ∈ sK u ++ [(14, gN u.2.1 32 0 0)] ↔ _
    rcases hk with rfl | rfl <;> simp
  · exact Obj.kp hK (hI.objs (i := 2) (by decide) j y (by rw [show gN (mkP u a x f t o).2.1 3 2 0 = gN u.2.1 3 2 0 from by show gN (cPq u.2.1 x f t o) 3 2 0 = _; rw [e3]] at hj; exact hj) hy)
  · show up2 (sA u) 14 _ a 14 _ = a
    unfold up2; simp
theorem Bd.toP {env : Ev} {s0 : Nat} {X : va_W} {u : St} {s : State} {H : Heap} {locs : List Loc} {a x f t o : Nat} (hB : Bd env s0 X (mkM u a (gN u.2.1 32 0 0) x f t o) s H locs) : Bd env s0 X (mkP u a x f t o) s H locs :=
  hB.ghost rfl (fun k i _ => ⟨rfl, cn_gh env (mkM u a (gN u.2.1 32 0 0) x f t o) (cPq u.2.1 x f t o) (fun f hf => by
    show gN (uN (uN _ 31 _ _ _) 32 _ _ _) f = _
    rw [gN_f _ _ _ _ _ (by omega), gN_f _ _ _ _ _ (by omega)]; rfl) rfl k i⟩)
theorem Bd.gh30 {env : Ev} {s0 : Nat} {X : va_W} {u : St} {s : State} {H : Heap} {locs : List Loc} {c : Lg} {i j v : Nat} (hB : Bd env s0 X (wC u c) s H locs) : Bd env s0 X (wC u (uN c 30 i j v)) s H locs :=
  hB.ghost rfl (fun k' i' _ => ⟨rfl, cn_gh env (wC u c) (uN c 30 i j v) (fun f hf => gN_f _ _ _ _ _ (by omega)) rfl k' i'⟩)

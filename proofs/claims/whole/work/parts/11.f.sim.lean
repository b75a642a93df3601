/-! class and model, side by side -/
def r0 (c m : Lg) : Prop := gN c 0 0 0 = gN m 50 0 0 ∧ gN c 1 0 0 = gN m 51 0 0 ∧ gN c 3 0 0 = gN m 52 0 0 ∧ gN c 3 1 0 = gN m 55 0 0 ∧ gN c 3 2 0 = gN m 72 0 0
def r1 (c m : Lg) : Prop := ∀ k, k < gN c 3 0 0 → gN c 25 k 0 = gN m 53 0 k ∧ gB c 4 k 0 = gB m 54 0 k
def r2 (c m : Lg) : Prop := ∀ t, gN c 26 t 0 = gN m 56 0 t ∧ gN c 16 t 0 = gN m 57 0 t ∧ gN c 17 t 0 = gN m 59 0 t ∧ gN c 20 t 0 = gN m 60 0 t ∧ gN c 19 t 0 = gN m 61 0 t ∧ gN c 18 t 0 = gN m 62 0 t
def r3 (c m : Lg) : Prop := (∀ t o, o < 4 → gN c 9 t o = gN m 58 0 (4 * t + o)) ∧ (∀ w o, o < 4 → gN c 6 w o = gN m 68 0 (4 * w + o))
def r4 (c m : Lg) : Prop := (∀ t k, k < 12 → gB c 10 t k = gB m 64 0 (12 * t + k) ∧ gJ c 11 t k = gJ m 65 0 (12 * t + k)) ∧ (∀ t x, x < 96 → gJ c 12 t x = gJ m 67 0 (96 * t + x)) ∧ (∀ t w, w < 4 → gB c 13 t w = gB m 63 0 (4 * t + w))
def r5 (c m : Lg) : Prop := (∀ w, w < 4 → gN c 3 (3 + w) 0 = gN m 70 0 w) ∧ (∀ w i, w < 4 → i < gN c 3 (3 + w) 0 → gN c 30 w i = gN m 69 0 (150 * w + i))
def r6 (c m : Lg) : Prop := ∀ w k, w < 4 → k < 12 → gI c 7 w k = gI m 71 0 (12 * w + k)
def r7 (c m : Lg) : Prop := ∀ i, i < gN c 3 2 0 → gN c 21 (gN c 31 0 i) 0 = gN m 73 0 i ∧ gN c 23 (gN c 31 0 i) 0 = gN m 74 0 i ∧ gN c 22 (gN c 31 0 i) 0 = gN m 75 0 i ∧ gN c 24 (gN c 31 0 i) 0 = gN m 76 0 i
def r8 (c m : Lg) : Prop := (∀ t, gB c 14 t 0 = anyN (fun k => gB m 66 0 (12 * t + k)) (gN c 3 0 0)) ∧ (∀ t k, gN c 3 0 0 ≤ k → k < 12 → gB m 66 0 (12 * t + k) = false)
def Rel (c m : Lg) : Prop := r0 c m ∧ r1 c m ∧ r2 c m ∧ r3 c m ∧ r4 c m ∧ r5 c m ∧ r6 c m ∧ r7 c m ∧ r8 c m
section RLp
variable {c c' m m' : Lg}
theorem r0.fr (h : r0 c m) (c0 : gN c' 0 = gN c 0) (c1 : gN c' 1 = gN c 1) (c3 : ∀ i, i < 3 → gN c' 3 i 0 = gN c 3 i 0) (m0 : ∀ f, f = 50 ∨ f = 51 ∨ f = 52 ∨ f = 55 ∨ f = 72 → gN m' f = gN m f) : r0 c' m' := by
  unfold r0 at *
  rw [c0, c1, c3 0 (by decide), c3 1 (by decide), c3 2 (by decide), m0 50 (by decide), m0 51 (by decide), m0 52 (by decide), m0 55 (by decide), m0 72 (by decide)]; exact h
theorem r1.fr (h : r1 c m) (c3 : gN c' 3 0 0 = gN c 3 0 0) (c25 : gN c' 25 = gN c 25) (cB : gB c' 4 = gB c 4) (m0 : gN m' 53 = gN m 53) (mB : gB m' 54 = gB m 54) : r1 c' m' := by
  unfold r1 at *; rw [c3, c25, cB, m0, mB]; exact h
theorem r2.fr (h : r2 c m) (c0 : ∀ f, f = 26 ∨ f = 16 ∨ f = 17 ∨ f = 18 ∨ f = 19 ∨ f = 20 → gN c' f = gN c f) (m0 : ∀ f, f = 56 ∨ f = 57 ∨ f = 59 ∨ f = 60 ∨ f = 61 ∨ f = 62 → gN m' f = gN m f) : r2 c' m' := by
  unfold r2 at *
  rw [c0 26 (by decide), c0 16 (by decide), c0 17 (by decide), c0 18 (by decide), c0 19 (by decide), c0 20 (by decide), m0 56 (by decide), m0 57 (by decide), m0 59 (by decide), m0 60 (by decide), m0 61 (by decide), m0 62 (by decide)]; exact h
theorem r3.fr (h : r3 c m) (c9 : gN c' 9 = gN c 9) (c6 : gN c' 6 = gN c 6) (m58 : gN m' 58 = gN m 58) (m68 : gN m' 68 = gN m 68) : r3 c' m' := by
  unfold r3 at *; rw [c9, c6, m58, m68]; exact h
theorem r4.fr (h : r4 c m) (cB : ∀ f, f = 10 ∨ f = 13 → gB c' f = gB c f) (cJ : gJ c' = gJ c) (mB : ∀ f, f = 64 ∨ f = 63 → gB m' f = gB m f) (mJ : gJ m' = gJ m) : r4 c' m' := by
  unfold r4 at *; rw [cB 10 (by decide), cB 13 (by decide), cJ, mB 64 (by decide), mB 63 (by decide), mJ]; exact h
theorem r5.fr (h : r5 c m) (c3 : ∀ w, w < 4 → gN c' 3 (3 + w) 0 = gN c 3 (3 + w) 0) (c30 : gN c' 30 = gN c 30) (m70 : gN m' 70 = gN m 70) (m69 : gN m' 69 = gN m 69) : r5 c' m' := by
  refine ⟨fun w hw => by rw [c3 w hw, m70]; exact h.1 w hw, fun w i hw hi => ?_⟩
  rw [c3 w hw] at hi; rw [c30, m69]; exact h.2 w i hw hi
theorem r6.fr (h : r6 c m) (cI : gI c' = gI c) (mI : gI m' = gI m) : r6 c' m' := by unfold r6 at *; rw [cI, mI]; exact h
theorem r7.fr (h : r7 c m) (c3 : gN c' 3 2 0 = gN c 3 2 0) (c0 : ∀ f, f = 21 ∨ f = 22 ∨ f = 23 ∨ f = 24 ∨ f = 31 → gN c' f = gN c f) (m0 : ∀ f, f = 73 ∨ f = 74 ∨ f = 75 ∨ f = 76 → gN m' f = gN m f) : r7 c' m' := by
  unfold r7 at *
  rw [c3, c0 21 (by decide), c0 22 (by decide), c0 23 (by decide), c0 24 (by decide), c0 31 (by decide), m0 73 (by decide), m0 74 (by decide), m0 75 (by decide), m0 76 (by decide)]; exact h
theorem r8.fr (h : r8 c m) (c3 : gN c' 3 0 0 = gN c 3 0 0) (cB : gB c' 14 = gB c 14) (mB : gB m' 66 = gB m 66) : r8 c' m' := by
  unfold r8 at *; rw [c3, cB, mB]; exact h
/-- one number each changes -/
theorem Rel.num (h : Rel c m) (cn : Nat) (hcn : cn = 16 ∨ cn = 17 ∨ cn = 18 ∨ cn = 19 ∨ cn = 20) {mn : Nat} (hmn : mn = if cn = 16 then 57 else if cn = 17 then 59 else if cn = 18 then 62 else if cn = 19 then 61 else 60) (t v : Nat) : Rel (uN c cn t 0 v) (uN m mn 0 t v) := by
  have hm5 : 57 ≤ mn ∧ mn ≤ 62 ∧ mn ≠ 58 := by rcases hcn with rfl | rfl | rfl | rfl | rfl <;> simp at hmn <;> omega
  have nc : ∀ {f : Nat}, f ≠ cn → gN (uN c cn t 0 v) f = gN c f := fun hf => gN_f _ _ _ _ _ hf
  have nm : ∀ {f : Nat}, f ≠ mn → gN (uN m mn 0 t v) f = gN m f := fun hf => gN_f _ _ _ _ _ hf
  have n3 : gN (uN c cn t 0 v) 3 = gN c 3 := nc (by omega)
  obtain ⟨h0, h1, h2, h3, h4, h5, h6, h7, h8⟩ := h
  refine ⟨h0.fr (nc (by omega)) (nc (by omega)) (fun i _ => by rw [n3]) (fun f hf => nm (by omega)), h1.fr (by rw [n3]) (nc (by omega)) rfl (nm (by omega)) rfl, ?_, h3.fr (nc (by omega)) (nc (by omega)) (nm (by omega)) (nm (by omega)), h4.fr (fun _ _ => rfl) rfl (fun _ _ => rfl) rfl, h5.fr (fun w _ => by rw [n3]) (nc (by omega)) (nm (by omega)) (nm (by omega)), h6.fr rfl rfl, h7.fr (by rw [n3]) (fun f hf => nc (by omega)) (fun f hf => nm (by omega)), h8.fr (by rw [n3]) rfl rfl⟩
  intro z
  obtain ⟨a1, a2, a3, a4, a5, a6⟩ := h2 z
  have ez : ∀ f, gN (uN c cn t 0 v) f z 0 = if f = cn ∧ z = t then v else gN c f z 0 := fun f => by rw [gN_uN]; simp
  have em : ∀ f, gN (uN m mn 0 t v) f 0 z = if f = mn ∧ z = t then v else gN m f 0 z := fun f => by rw [gN_uN]; simp
  rw [ez, ez, ez, ez, ez, ez, em, em, em, em, em, em, a1, a2, a3, a4, a5, a6]
  by_cases q : z = t
  · rcases hcn with rfl | rfl | rfl | rfl | rfl <;> simp at hmn <;> subst hmn <;> simp [q]
  · simp [q]
theorem mSend_c {m : Lg} (kd w f t : Nat) (n : Nat) : gN (mSend m kd w f t) 73 0 n = (if n = gN m 72 0 0 then kd else gN m 73 0 n) ∧ gN (mSend m kd w f t) 74 0 n = (if n = gN m 72 0 0 then w else gN m 74 0 n) ∧ gN (mSend m kd w f t) 75 0 n = (if n = gN m 72 0 0 then f else gN m 75 0 n) ∧ gN (mSend m kd w f t) 76 0 n = (if n = gN m 72 0 0 then t else gN m 76 0 n) := by
  unfold mSend; simp [gN_uN]
theorem Rel.post (hF : gF c) (h : Rel c m) (x f w o : Nat) : Rel (cPost c x f w o) (mSend m x w f o) := by
  have nc : ∀ {n : Nat}, (n ≠ 3 ∧ n ≠ 21 ∧ n ≠ 22 ∧ n ≠ 23 ∧ n ≠ 24 ∧ n ≠ 31 ∧ n ≠ 32) → gN (cPost c x f w o) n = gN c n := fun hn => cPost_N _ _ _ _ _ hn
  have nm : ∀ {n : Nat}, n < 72 → gN (mSend m x w f o) n = gN m n := fun hn => mSend_f _ _ _ _ _ hn
  have n3 : ∀ i, i ≠ 2 → gN (cPost c x f w o) 3 i 0 = gN c 3 i 0 := fun i hi => by rw [cPost_3, if_neg (fun z => hi z.1)]
  obtain ⟨h0, h1, h2, h3, h4, h5, h6, h7, h8⟩ := h
  refine ⟨?_, h1.fr (n3 0 (by decide)) (nc (by decide)) rfl (nm (by decide)) rfl, h2.fr (fun f hf => nc (by omega)) (fun f hf => nm (by omega)), h3.fr (nc (by decide)) (nc (by decide)) (nm (by decide)) (nm (by decide)), h4.fr (fun _ _ => rfl) rfl (fun _ _ => rfl) rfl, h5.fr (fun w _ => n3 _ (by omega)) (nc (by decide)) (nm (by decide)) (nm (by decide)), h6.fr rfl rfl, ?_, h8.fr (n3 0 (by decide)) rfl rfl⟩
  · unfold r0 at *
    rw [nc (n := 0) (by decide), nc (n := 1) (by decide), n3 0 (by decide), n3 1 (by decide), cPost_3, if_pos ⟨rfl, rfl⟩, nm (n := 50) (by decide), nm (n := 51) (by decide), nm (n := 52) (by decide), nm (n := 55) (by decide), mSend_72]
    exact ⟨h0.1, h0.2.1, h0.2.2.1, h0.2.2.2.1, by rw [h0.2.2.2.2]⟩
  · intro i hi
    rw [cPost_3, if_pos ⟨rfl, rfl⟩] at hi
    obtain ⟨s1, s2, s3, s4⟩ := mSend_c (m := m) x w f o i
    rw [s1, s2, s3, s4, ← h0.2.2.2.2, cPost_31]
    by_cases z : i = gN c 3 2 0
    · rw [if_pos z, if_pos z, if_pos z, if_pos z, if_pos z, cPost_21, cPost_22, cPost_23, cPost_24, if_pos rfl, if_pos rfl, if_pos rfl, if_pos rfl]; exact ⟨rfl, rfl, rfl, rfl⟩
    · have hne : gN c 31 0 i ≠ gN c 32 0 0 := by have := (hF.1 i (by omega)).1; omega
      rw [if_neg z, if_neg z, if_neg z, if_neg z, if_neg z, cPost_21, cPost_22, cPost_23, cPost_24, if_neg hne, if_neg hne, if_neg hne, if_neg hne]
      exact h7 i (by omega)
theorem mShiftL_s (m : Lg) (i d : Nat) : mShiftL m i (d + 1) = uN (uN (uN (uN (mShiftL m i d) 73 0 (i + d) (gN (mShiftL m i d) 73 0 (i + d + 1))) 74 0 (i + d) (gN (mShiftL m i d) 74 0 (i + d + 1))) 75 0 (i + d) (gN (mShiftL m i d) 75 0 (i + d + 1))) 76 0 (i + d) (gN (mShiftL m i d) 76 0 (i + d + 1)) := rfl
theorem mShiftL_c (m : Lg) (i : Nat) {f : Nat} (hf : f = 73 ∨ f = 74 ∨ f = 75 ∨ f = 76) (j : Nat) : ∀ d, gN (mShiftL m i d) f 0 j = if i ≤ j ∧ j < i + d then gN m f 0 (j + 1) else gN m f 0 j
  | 0 => by rw [if_neg (by omega)]; rfl
  | d + 1 => by
    have ih := mShiftL_c m i hf j d
    have ih2 : gN (mShiftL m i d) f 0 (i + d + 1) = gN m f 0 (i + d + 1) := by rw [mShiftL_c m i hf (i + d + 1) d, if_neg (by omega)]
    have step : gN (mShiftL m i (d + 1)) f 0 j = if j = i + d then gN (mShiftL m i d) f 0 (i + d + 1) else gN (mShiftL m i d) f 0 j := by
      rw [mShiftL_s]; generalize mShiftL m i d = M
      rcases hf with rfl | rfl | rfl | rfl <;> simp [gN_uN]
    rw [step, ih, ih2]
    by_cases z : j = i + d
    · subst z; rw [if_pos rfl, if_pos (by omega)]
    · rw [if_neg z]
      by_cases y : i ≤ j ∧ j < i + d
      · rw [if_pos y, if_pos (by omega)]
      · rw [if_neg y, if_neg (by omega)]
theorem mTake_c (m : Lg) (i : Nat) {f : Nat} (hf : f = 73 ∨ f = 74 ∨ f = 75 ∨ f = 76) (j : Nat) : gN (mTake m i) f 0 j = if i ≤ j ∧ j < i + (gN m 72 0 0 - 1 - i) then gN m f 0 (j + 1) else gN m f 0 j := by
  unfold mTake; rw [mShiftL_c _ _ hf, gN_f _ _ _ _ _ (by omega)]
theorem mShiftL_B (m : Lg) (i : Nat) : ∀ d, gB (mShiftL m i d) = gB m ∧ gI (mShiftL m i d) = gI m ∧ gJ (mShiftL m i d) = gJ m
  | 0 => ⟨rfl, rfl, rfl⟩
  | d + 1 => mShiftL_B m i d
theorem Rel.rem (h : Rel c m) {i : Nat} (hi : i < gN c 3 2 0) : Rel (cRem c i) (mTake m i) := by
  have nc : ∀ {n : Nat}, (n ≠ 3 ∧ n ≠ 31) → gN (cRem c i) n = gN c n := fun hn => cRem_N _ _ hn
  have nm : ∀ {n : Nat}, n < 72 → gN (mTake m i) n = gN m n := fun hn => mTake_f _ _ hn
  have n3 : ∀ j, j ≠ 2 → gN (cRem c i) 3 j 0 = gN c 3 j 0 := fun j hj => by rw [cRem_3, if_neg (fun z => hj z.1)]
  obtain ⟨eB, eI, eJ⟩ := mShiftL_B (uN m 72 0 0 (gN m 72 0 0 - 1)) i (gN m 72 0 0 - 1 - i)
  have eB : gB (mTake m i) = gB m := eB
  have eI : gI (mTake m i) = gI m := eI
  have eJ : gJ (mTake m i) = gJ m := eJ
  obtain ⟨h0, h1, h2, h3, h4, h5, h6, h7, h8⟩ := h
  refine ⟨?_, h1.fr (n3 0 (by decide)) (nc (by decide)) rfl (nm (by decide)) (by rw [eB]), h2.fr (fun f hf => nc (by omega)) (fun f hf => nm (by omega)), h3.fr (nc (by decide)) (nc (by decide)) (nm (by decide)) (nm (by decide)), h4.fr (fun _ _ => rfl) rfl (fun _ _ => by rw [eB]) eJ, h5.fr (fun w _ => n3 _ (by omega)) (nc (by decide)) (nm (by decide)) (nm (by decide)), h6.fr rfl eI, ?_, h8.fr (n3 0 (by decide)) rfl (by rw [eB])⟩
  · unfold r0 at *
    rw [nc (n := 0) (by decide), nc (n := 1) (by decide), n3 0 (by decide), n3 1 (by decide), cRem_3, if_pos ⟨rfl, rfl⟩, nm (n := 50) (by decide), nm (n := 51) (by decide), nm (n := 52) (by decide), nm (n := 55) (by decide), mTake_72]
    exact ⟨h0.1, h0.2.1, h0.2.2.1, h0.2.2.2.1, by rw [h0.2.2.2.2]⟩
  · intro j hj
    rw [cRem_3, if_pos ⟨rfl, rfl⟩] at hj
    rw [nc (n := 21) (by decide), nc (n := 22) (by decide), nc (n := 23) (by decide), nc (n := 24) (by decide), cRem_31, mTake_c _ _ (by decide), mTake_c _ _ (by decide), mTake_c _ _ (by decide), mTake_c _ _ (by decide), ← h0.2.2.2.2]
    by_cases z : i ≤ j
    · rw [if_pos z, if_pos (by omega), if_pos (by omega), if_pos (by omega), if_pos (by omega)]; exact h7 (j + 1) (by omega)
    · rw [if_neg z, if_neg (by omega), if_neg (by omega), if_neg (by omega), if_neg (by omega)]; exact h7 j (by omega)
theorem mUnlock_I (m : Lg) (t w v j : Nat) (hj : j < 12) : ∀ n, n ≤ 12 → gI (mUnlock m t w n) 71 0 (12 * v + j) = if v = w ∧ j < n ∧ gI m 71 0 (12 * v + j) = nI t then -4 else gI m 71 0 (12 * v + j)
  | 0, _ => by simp [mUnlock]
  | n + 1, hn => by
    have ih := mUnlock_I m t w v j hj n (by omega)
    have i2 : gI (mUnlock m t w n) 71 0 (12 * w + n) = gI m 71 0 (12 * w + n) := by rw [mUnlock_I m t w w n (by omega) n (by omega), if_neg (by omega)]
    show gI (if gI (mUnlock m t w n) 71 0 (12 * w + n) = nI t then uI (mUnlock m t w n) 71 0 (12 * w + n) (-4) else mUnlock m t w n) 71 0 (12 * v + j) = _
    rw [i2]
    by_cases z : gI m 71 0 (12 * w + n) = nI t
    · rw [if_pos z, gI_uI, ih]
      by_cases y : v = w ∧ j = n
      · obtain ⟨rfl, rfl⟩ := y; simp [z]
      · rw [if_neg (by omega)]
        by_cases x : v = w ∧ j < n ∧ gI m 71 0 (12 * v + j) = nI t
        · rw [if_pos x, if_pos ⟨x.1, by omega, x.2.2⟩]
        · rw [if_neg x, if_neg (fun h => x ⟨h.1, by omega, h.2.2⟩)]
    · rw [if_neg z, ih]
      by_cases x : v = w ∧ j < n ∧ gI m 71 0 (12 * v + j) = nI t
      · rw [if_pos x, if_pos ⟨x.1, by omega, x.2.2⟩]
      · rw [if_neg x, if_neg]
        rintro ⟨h1, h2, h3⟩
        by_cases y : j = n
        · subst y; subst h1; exact z h3
        · exact x ⟨h1, by omega, h3⟩
theorem mLock_I (m : Lg) (t w v j : Nat) (hj : j < 12) : ∀ n, n ≤ 12 → gI (mLock m t w n) 71 0 (12 * v + j) = if v = w ∧ j < n ∧ (gB m 64 0 (12 * t + j) = true ∧ gN m 53 0 j = w) then nI t else gI m 71 0 (12 * v + j)
  | 0, _ => by simp [mLock]
  | n + 1, hn => by
    have ih := mLock_I m t w v j hj n (by omega)
    show gI (if gB (mLock m t w n) 64 0 (12 * t + n) = true ∧ gN (mLock m t w n) 53 0 n = w then uI (mLock m t w n) 71 0 (12 * w + n) (nI t) else mLock m t w n) 71 0 (12 * v + j) = _
    rw [mLock_B, mLock_N]
    by_cases z : gB m 64 0 (12 * t + n) = true ∧ gN m 53 0 n = w
    · rw [if_pos z, gI_uI, ih]
      by_cases y : v = w ∧ j = n
      · obtain ⟨rfl, rfl⟩ := y; rw [if_pos ⟨rfl, rfl, rfl⟩, if_pos ⟨rfl, by omega, z⟩]
      · rw [if_neg (by omega)]
        by_cases x : v = w ∧ j < n ∧ (gB m 64 0 (12 * t + j) = true ∧ gN m 53 0 j = w)
        · rw [if_pos x, if_pos ⟨x.1, by omega, x.2.2⟩]
        · rw [if_neg x, if_neg (fun h => x ⟨h.1, by omega, h.2.2⟩)]
    · rw [if_neg z, ih]
      by_cases x : v = w ∧ j < n ∧ (gB m 64 0 (12 * t + j) = true ∧ gN m 53 0 j = w)
      · rw [if_pos x, if_pos ⟨x.1, by omega, x.2.2⟩]
      · rw [if_neg x, if_neg]
        rintro ⟨h1, h2, h3⟩
        by_cases y : j = n
        · subst y; exact z h3
        · exact x ⟨h1, by omega, h3⟩
theorem Rel.I (h : Rel c m) (hN : gN c' = gN c) (hB : gB c' = gB c) (hJ : gJ c' = gJ c) (mN : gN m' = gN m) (mB : gB m' = gB m) (mJ : gJ m' = gJ m) (h6 : r6 c' m') : Rel c' m' := by
  obtain ⟨h0, h1, h2, h3, h4, h5, -, h7, h8⟩ := h
  exact ⟨h0.fr (by rw [hN]) (by rw [hN]) (fun _ _ => by rw [hN]) (fun _ _ => by rw [mN]), h1.fr (by rw [hN]) (by rw [hN]) (by rw [hB]) (by rw [mN]) (by rw [mB]), h2.fr (fun _ _ => by rw [hN]) (fun _ _ => by rw [mN]), h3.fr (by rw [hN]) (by rw [hN]) (by rw [mN]) (by rw [mN]), h4.fr (fun _ _ => by rw [hB]) hJ (fun _ _ => by rw [mB]) mJ, h5.fr (fun _ _ => by rw [hN]) (by rw [hN]) (by rw [mN]) (by rw [mN]), h6, h7.fr (by rw [hN]) (fun _ _ => by rw [hN]) (fun _ _ => by rw [mN]), h8.fr (by rw [hN]) (by rw [hB]) (by rw [mB])⟩
theorem m4_ne {t : Nat} (ht : t < 1000) : nI t ≠ (-4 : Int32) := by
  intro h
  have := congrArg Int32.toInt h
  rw [nI_toInt (by omega)] at this
  have e : (-4 : Int32).toInt = -4 := by decide
  omega
theorem Rel.unlock (hL : gL c) (hK : gN c 3 0 0 ≤ 12) (h : Rel c m) {w t : Nat} (ht : t < 1000) : Rel (cUnlock c w t 12) (mUnlock m t w (gN m 52 0 0)) := by
  refine h.I (cUnlock_N _ _ _ _) (cUnlock_B _ _ _ _) (cUnlock_J _ _ _ _) (mUnlock_N _ _ _ _) (mUnlock_B _ _ _ _) (mUnlock_J _ _ _ _) ?_
  intro v k hv hk
  have e52 := h.1.2.2.1
  rw [cUnlock_I, mUnlock_I _ _ _ _ _ hk _ (by omega), ← h.2.2.2.2.2.2.1 v k hv hk]
  by_cases z : v = w ∧ k < 12 ∧ gI c 7 v k = nI t
  · rw [if_pos z]
    by_cases y : k < gN m 52 0 0
    · rw [if_pos ⟨z.1, y, z.2.2⟩]
    · have := hL v k hv hk (Or.inr (by omega))
      rw [this] at z; exact absurd z.2.2.symm (m4_ne ht)
  · rw [if_neg z, if_neg (fun y => z ⟨y.1, hk, y.2.2⟩)]
theorem Rel.lock (hA : gA c) (h : Rel c m) {w t : Nat} : Rel (cLock c t w (gN c 3 0 0)) (mLock m t w (gN m 52 0 0)) := by
  refine h.I (cLock_N _ _ _ _) (cLock_B _ _ _ _) (cLock_J _ _ _ _) (mLock_N _ _ _ _) (mLock_B _ _ _ _) (mLock_J _ _ _ _) ?_
  intro v k hv hk
  have e52 := h.1.2.2.1
  have hK := hA.2.1.1
  rw [cLock_I, mLock_I _ _ _ _ _ hk _ (by omega), ← h.2.2.2.2.2.2.1 v k hv hk, ← e52]
  by_cases y : k < gN c 3 0 0
  · have e1 := (h.2.2.2.2.1.1 t k hk).1
    have e2 := (h.2.1 k y).1
    unfold cPlQ
    rw [← e1, ← e2]; simp
  · rw [if_neg (fun z => y z.2.1), if_neg (fun z => y z.2.1)]
end RLp

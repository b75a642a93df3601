def vN (u : St) (f i j : Nat) (v : Nat) : St := (u.1, uN u.2.1 f i j v, u.2.2)
def wN (u : St) (f i j : Nat) (v : Nat) : St := (u.1, u.2.1, uN u.2.2 f i j v)
def vB (u : St) (f i j : Nat) (v : Bool) : St := (u.1, uB u.2.1 f i j v, u.2.2)
def wB (u : St) (f i j : Nat) (v : Bool) : St := (u.1, u.2.1, uB u.2.2 f i j v)
def vI (u : St) (f i j : Nat) (v : Int32) : St := (u.1, uI u.2.1 f i j v, u.2.2)
def wI (u : St) (f i j : Nat) (v : Int32) : St := (u.1, u.2.1, uI u.2.2 f i j v)
def vJ (u : St) (f i j : Nat) (v : Int64) : St := (u.1, uJ u.2.1 f i j v, u.2.2)
def wJ (u : St) (f i j : Nat) (v : Int64) : St := (u.1, u.2.1, uJ u.2.2 f i j v)
set_option maxHeartbeats 1000000 in
theorem cu_N0 (env : Ev) (u : St) (i : Nat) (v : Nat) : ∀ k' i', cn env (vN u 0 i 0 v) k' i' = if k' = 0 ∧ i' = i then .inr (5, ([.ref (sA u 1 0), .int (nI (gN u.2.1 0 i 0)), .int (nI (gN u.2.1 1 i 0)), .ref (sA u 2 0), .ref (sA u 2 1), .ref (sA u 2 2)] : List Value).set 1 (.int (nI (v)))) else cn env u k' i' := by
  intro k' i'
  match k' with
  | 0 =>
    by_cases h : i' = i
    · subst h; simp [cn, vN, wN, uN, up3, gN, gB, gI, gJ, sA, sM, sE]
    · simp [cn, vN, wN, uN, up3, gN, gB, gI, gJ, sA, sM, sE, h]
  | 1 => rfl
  | 2 => rfl
  | 3 => rfl
  | 4 => rfl
  | 5 => rfl
  | 6 => rfl
  | 7 => rfl
  | 8 => rfl
  | 9 => rfl
  | 10 => rfl
  | 11 => rfl
  | 12 => rfl
  | 13 => rfl
  | 14 => rfl
  | 15 => rfl
  | 16 => rfl
  | 17 => rfl
  | 18 => rfl
  | 19 => rfl
  | 20 => rfl
  | 21 => rfl
  | 22 => rfl
  | 23 => rfl
  | 24 => rfl
  | 25 => rfl
  | 26 => rfl
  | 27 => rfl
  | 28 => rfl
  | 29 => rfl
  | 30 => rfl
  | 31 => rfl
  | 32 => rfl
  | 33 => rfl
  | 34 => rfl
  | 35 => rfl
  | 36 => rfl
  | 37 => rfl
  | 38 => rfl
  | 39 => rfl
  | 40 => rfl
  | 41 => rfl
  | 42 => rfl
  | 43 => rfl
  | 44 => rfl
  | 45 => rfl
  | 46 => rfl
  | 47 => rfl
  | _ + 48 => rfl
set_option maxHeartbeats 1000000 in
theorem cu_N1 (env : Ev) (u : St) (i : Nat) (v : Nat) : ∀ k' i', cn env (vN u 1 i 0 v) k' i' = if k' = 0 ∧ i' = i then .inr (5, ([.ref (sA u 1 0), .int (nI (gN u.2.1 0 i 0)), .int (nI (gN u.2.1 1 i 0)), .ref (sA u 2 0), .ref (sA u 2 1), .ref (sA u 2 2)] : List Value).set 2 (.int (nI (v)))) else cn env u k' i' := by
  intro k' i'
  match k' with
  | 0 =>
    by_cases h : i' = i
    · subst h; simp [cn, vN, wN, uN, up3, gN, gB, gI, gJ, sA, sM, sE]
    · simp [cn, vN, wN, uN, up3, gN, gB, gI, gJ, sA, sM, sE, h]
  | 1 => rfl
  | 2 => rfl
  | 3 => rfl
  | 4 => rfl
  | 5 => rfl
  | 6 => rfl
  | 7 => rfl
  | 8 => rfl
  | 9 => rfl
  | 10 => rfl
  | 11 => rfl
  | 12 => rfl
  | 13 => rfl
  | 14 => rfl
  | 15 => rfl
  | 16 => rfl
  | 17 => rfl
  | 18 => rfl
  | 19 => rfl
  | 20 => rfl
  | 21 => rfl
  | 22 => rfl
  | 23 => rfl
  | 24 => rfl
  | 25 => rfl
  | 26 => rfl
  | 27 => rfl
  | 28 => rfl
  | 29 => rfl
  | 30 => rfl
  | 31 => rfl
  | 32 => rfl
  | 33 => rfl
  | 34 => rfl
  | 35 => rfl
  | 36 => rfl
  | 37 => rfl
  | 38 => rfl
  | 39 => rfl
  | 40 => rfl
  | 41 => rfl
  | 42 => rfl
  | 43 => rfl
  | 44 => rfl
  | 45 => rfl
  | 46 => rfl
  | 47 => rfl
  | _ + 48 => rfl
set_option maxHeartbeats 1000000 in
theorem cu_N3 (env : Ev) (u : St) (i : Nat) (v : Nat) : ∀ k' i', cn env (vN u 3 i 0 v) k' i' = if k' = 2 ∧ i' = i then .inr (0, ([.int (nI (sM u 1 i)), .ref (sA u 3 (sM u 2 i)), .int (nI (gN u.2.1 3 i 0))] : List Value).set 2 (.int (nI (v)))) else cn env u k' i' := by
  intro k' i'
  match k' with
  | 2 =>
    by_cases h : i' = i
    · subst h; simp [cn, vN, wN, uN, up3, gN, gB, gI, gJ, sA, sM, sE]
    · simp [cn, vN, wN, uN, up3, gN, gB, gI, gJ, sA, sM, sE, h]
  | 0 => rfl
  | 1 => rfl
  | 3 => rfl
  | 4 => rfl
  | 5 => rfl
  | 6 => rfl
  | 7 => rfl
  | 8 => rfl
  | 9 => rfl
  | 10 => rfl
  | 11 => rfl
  | 12 => rfl
  | 13 => rfl
  | 14 => rfl
  | 15 => rfl
  | 16 => rfl
  | 17 => rfl
  | 18 => rfl
  | 19 => rfl
  | 20 => rfl
  | 21 => rfl
  | 22 => rfl
  | 23 => rfl
  | 24 => rfl
  | 25 => rfl
  | 26 => rfl
  | 27 => rfl
  | 28 => rfl
  | 29 => rfl
  | 30 => rfl
  | 31 => rfl
  | 32 => rfl
  | 33 => rfl
  | 34 => rfl
  | 35 => rfl
  | 36 => rfl
  | 37 => rfl
  | 38 => rfl
  | 39 => rfl
  | 40 => rfl
  | 41 => rfl
  | 42 => rfl
  | 43 => rfl
  | 44 => rfl
  | 45 => rfl
  | 46 => rfl
  | 47 => rfl
  | _ + 48 => rfl
set_option maxHeartbeats 1000000 in
theorem cu_B14 (env : Ev) (u : St) (i : Nat) (v : Bool) : ∀ k' i', cn env (vB u 14 i 0 v) k' i' = if k' = 8 ∧ i' = i then .inr (4, ([.int (nI i), .ref (sA u 5 (gN u.2.1 26 i 0)), .ref (sA u 9 i), .ref (sA u 10 i), .ref (sA u 11 i), .ref (sA u 12 i), .ref (sA u 13 i), .int (b2i (gB u.2.1 14 i 0)), .int (nI (gN u.2.1 15 i 0)), .int (nI (gN u.2.1 16 i 0)), .int (nI (gN u.2.1 17 i 0)), .int (nI (gN u.2.1 18 i 0)), .int (nI (gN u.2.1 19 i 0)), .int (nI (gN u.2.1 20 i 0))] : List Value).set 7 (.int (b2i (v)))) else cn env u k' i' := by
  intro k' i'
  match k' with
  | 8 =>
    by_cases h : i' = i
    · subst h; simp [cn, vB, wB, uB, up3, gN, gB, gI, gJ, sA, sM, sE]
    · simp [cn, vB, wB, uB, up3, gN, gB, gI, gJ, sA, sM, sE, h]
  | 0 => rfl
  | 1 => rfl
  | 2 => rfl
  | 3 => rfl
  | 4 => rfl
  | 5 => rfl
  | 6 => rfl
  | 7 => rfl
  | 9 => rfl
  | 10 => rfl
  | 11 => rfl
  | 12 => rfl
  | 13 => rfl
  | 14 => rfl
  | 15 => rfl
  | 16 => rfl
  | 17 => rfl
  | 18 => rfl
  | 19 => rfl
  | 20 => rfl
  | 21 => rfl
  | 22 => rfl
  | 23 => rfl
  | 24 => rfl
  | 25 => rfl
  | 26 => rfl
  | 27 => rfl
  | 28 => rfl
  | 29 => rfl
  | 30 => rfl
  | 31 => rfl
  | 32 => rfl
  | 33 => rfl
  | 34 => rfl
  | 35 => rfl
  | 36 => rfl
  | 37 => rfl
  | 38 => rfl
  | 39 => rfl
  | 40 => rfl
  | 41 => rfl
  | 42 => rfl
  | 43 => rfl
  | 44 => rfl
  | 45 => rfl
  | 46 => rfl
  | 47 => rfl
  | _ + 48 => rfl
set_option maxHeartbeats 1000000 in
theorem cu_N15 (env : Ev) (u : St) (i : Nat) (v : Nat) : ∀ k' i', cn env (vN u 15 i 0 v) k' i' = if k' = 8 ∧ i' = i then .inr (4, ([.int (nI i), .ref (sA u 5 (gN u.2.1 26 i 0)), .ref (sA u 9 i), .ref (sA u 10 i), .ref (sA u 11 i), .ref (sA u 12 i), .ref (sA u 13 i), .int (b2i (gB u.2.1 14 i 0)), .int (nI (gN u.2.1 15 i 0)), .int (nI (gN u.2.1 16 i 0)), .int (nI (gN u.2.1 17 i 0)), .int (nI (gN u.2.1 18 i 0)), .int (nI (gN u.2.1 19 i 0)), .int (nI (gN u.2.1 20 i 0))] : List Value).set 8 (.int (nI (v)))) else cn env u k' i' := by
  intro k' i'
  match k' with
  | 8 =>
    by_cases h : i' = i
    · subst h; simp [cn, vN, wN, uN, up3, gN, gB, gI, gJ, sA, sM, sE]
    · simp [cn, vN, wN, uN, up3, gN, gB, gI, gJ, sA, sM, sE, h]
  | 0 => rfl
  | 1 => rfl
  | 2 => rfl
  | 3 => rfl
  | 4 => rfl
  | 5 => rfl
  | 6 => rfl
  | 7 => rfl
  | 9 => rfl
  | 10 => rfl
  | 11 => rfl
  | 12 => rfl
  | 13 => rfl
  | 14 => rfl
  | 15 => rfl
  | 16 => rfl
  | 17 => rfl
  | 18 => rfl
  | 19 => rfl
  | 20 => rfl
  | 21 => rfl
  | 22 => rfl
  | 23 => rfl
  | 24 => rfl
  | 25 => rfl
  | 26 => rfl
  | 27 => rfl
  | 28 => rfl
  | 29 => rfl
  | 30 => rfl
  | 31 => rfl
  | 32 => rfl
  | 33 => rfl
  | 34 => rfl
  | 35 => rfl
  | 36 => rfl
  | 37 => rfl
  | 38 => rfl
  | 39 => rfl
  | 40 => rfl
  | 41 => rfl
  | 42 => rfl
  | 43 => rfl
  | 44 => rfl
  | 45 => rfl
  | 46 => rfl
  | 47 => rfl
  | _ + 48 => rfl
set_option maxHeartbeats 1000000 in
theorem cu_N16 (env : Ev) (u : St) (i : Nat) (v : Nat) : ∀ k' i', cn env (vN u 16 i 0 v) k' i' = if k' = 8 ∧ i' = i then .inr (4, ([.int (nI i), .ref (sA u 5 (gN u.2.1 26 i 0)), .ref (sA u 9 i), .ref (sA u 10 i), .ref (sA u 11 i), .ref (sA u 12 i), .ref (sA u 13 i), .int (b2i (gB u.2.1 14 i 0)), .int (nI (gN u.2.1 15 i 0)), .int (nI (gN u.2.1 16 i 0)), .int (nI (gN u.2.1 17 i 0)), .int (nI (gN u.2.1 18 i 0)), .int (nI (gN u.2.1 19 i 0)), .int (nI (gN u.2.1 20 i 0))] : List Value).set 9 (.int (nI (v)))) else cn env u k' i' := by
  intro k' i'
  match k' with
  | 8 =>
    by_cases h : i' = i
    · subst h; simp [cn, vN, wN, uN, up3, gN, gB, gI, gJ, sA, sM, sE]
    · simp [cn, vN, wN, uN, up3, gN, gB, gI, gJ, sA, sM, sE, h]
  | 0 => rfl
  | 1 => rfl
  | 2 => rfl
  | 3 => rfl
  | 4 => rfl
  | 5 => rfl
  | 6 => rfl
  | 7 => rfl
  | 9 => rfl
  | 10 => rfl
  | 11 => rfl
  | 12 => rfl
  | 13 => rfl
  | 14 => rfl
  | 15 => rfl
  | 16 => rfl
  | 17 => rfl
  | 18 => rfl
  | 19 => rfl
  | 20 => rfl
  | 21 => rfl
  | 22 => rfl
  | 23 => rfl
  | 24 => rfl
  | 25 => rfl
  | 26 => rfl
  | 27 => rfl
  | 28 => rfl
  | 29 => rfl
  | 30 => rfl
  | 31 => rfl
  | 32 => rfl
  | 33 => rfl
  | 34 => rfl
  | 35 => rfl
  | 36 => rfl
  | 37 => rfl
  | 38 => rfl
  | 39 => rfl
  | 40 => rfl
  | 41 => rfl
  | 42 => rfl
  | 43 => rfl
  | 44 => rfl
  | 45 => rfl
  | 46 => rfl
  | 47 => rfl
  | _ + 48 => rfl
set_option maxHeartbeats 1000000 in
theorem cu_N17 (env : Ev) (u : St) (i : Nat) (v : Nat) : ∀ k' i', cn env (vN u 17 i 0 v) k' i' = if k' = 8 ∧ i' = i then .inr (4, ([.int (nI i), .ref (sA u 5 (gN u.2.1 26 i 0)), .ref (sA u 9 i), .ref (sA u 10 i), .ref (sA u 11 i), .ref (sA u 12 i), .ref (sA u 13 i), .int (b2i (gB u.2.1 14 i 0)), .int (nI (gN u.2.1 15 i 0)), .int (nI (gN u.2.1 16 i 0)), .int (nI (gN u.2.1 17 i 0)), .int (nI (gN u.2.1 18 i 0)), .int (nI (gN u.2.1 19 i 0)), .int (nI (gN u.2.1 20 i 0))] : List Value).set 10 (.int (nI (v)))) else cn env u k' i' := by
  intro k' i'
  match k' with
  | 8 =>
    by_cases h : i' = i
    · subst h; simp [cn, vN, wN, uN, up3, gN, gB, gI, gJ, sA, sM, sE]
    · simp [cn, vN, wN, uN, up3, gN, gB, gI, gJ, sA, sM, sE, h]
  | 0 => rfl
  | 1 => rfl
  | 2 => rfl
  | 3 => rfl
  | 4 => rfl
  | 5 => rfl
  | 6 => rfl
  | 7 => rfl
  | 9 => rfl
  | 10 => rfl
  | 11 => rfl
  | 12 => rfl
  | 13 => rfl
  | 14 => rfl
  | 15 => rfl
  | 16 => rfl
  | 17 => rfl
  | 18 => rfl
  | 19 => rfl
  | 20 => rfl
  | 21 => rfl
  | 22 => rfl
  | 23 => rfl
  | 24 => rfl
  | 25 => rfl
  | 26 => rfl
  | 27 => rfl
  | 28 => rfl
  | 29 => rfl
  | 30 => rfl
  | 31 => rfl
  | 32 => rfl
  | 33 => rfl
  | 34 => rfl
  | 35 => rfl
  | 36 => rfl
  | 37 => rfl
  | 38 => rfl
  | 39 => rfl
  | 40 => rfl
  | 41 => rfl
  | 42 => rfl
  | 43 => rfl
  | 44 => rfl
  | 45 => rfl
  | 46 => rfl
  | 47 => rfl
  | _ + 48 => rfl
set_option maxHeartbeats 1000000 in
theorem cu_N18 (env : Ev) (u : St) (i : Nat) (v : Nat) : ∀ k' i', cn env (vN u 18 i 0 v) k' i' = if k' = 8 ∧ i' = i then .inr (4, ([.int (nI i), .ref (sA u 5 (gN u.2.1 26 i 0)), .ref (sA u 9 i), .ref (sA u 10 i), .ref (sA u 11 i), .ref (sA u 12 i), .ref (sA u 13 i), .int (b2i (gB u.2.1 14 i 0)), .int (nI (gN u.2.1 15 i 0)), .int (nI (gN u.2.1 16 i 0)), .int (nI (gN u.2.1 17 i 0)), .int (nI (gN u.2.1 18 i 0)), .int (nI (gN u.2.1 19 i 0)), .int (nI (gN u.2.1 20 i 0))] : List Value).set 11 (.int (nI (v)))) else cn env u k' i' := by
  intro k' i'
  match k' with
  | 8 =>
    by_cases h : i' = i
    · subst h; simp [cn, vN, wN, uN, up3, gN, gB, gI, gJ, sA, sM, sE]
    · simp [cn, vN, wN, uN, up3, gN, gB, gI, gJ, sA, sM, sE, h]
  | 0 => rfl
  | 1 => rfl
  | 2 => rfl
  | 3 => rfl
  | 4 => rfl
  | 5 => rfl
  | 6 => rfl
  | 7 => rfl
  | 9 => rfl
  | 10 => rfl
  | 11 => rfl
  | 12 => rfl
  | 13 => rfl
  | 14 => rfl
  | 15 => rfl
  | 16 => rfl
  | 17 => rfl
  | 18 => rfl
  | 19 => rfl
  | 20 => rfl
  | 21 => rfl
  | 22 => rfl
  | 23 => rfl
  | 24 => rfl
  | 25 => rfl
  | 26 => rfl
  | 27 => rfl
  | 28 => rfl
  | 29 => rfl
  | 30 => rfl
  | 31 => rfl
  | 32 => rfl
  | 33 => rfl
  | 34 => rfl
  | 35 => rfl
  | 36 => rfl
  | 37 => rfl
  | 38 => rfl
  | 39 => rfl
  | 40 => rfl
  | 41 => rfl
  | 42 => rfl
  | 43 => rfl
  | 44 => rfl
  | 45 => rfl
  | 46 => rfl
  | 47 => rfl
  | _ + 48 => rfl
set_option maxHeartbeats 1000000 in
theorem cu_N19 (env : Ev) (u : St) (i : Nat) (v : Nat) : ∀ k' i', cn env (vN u 19 i 0 v) k' i' = if k' = 8 ∧ i' = i then .inr (4, ([.int (nI i), .ref (sA u 5 (gN u.2.1 26 i 0)), .ref (sA u 9 i), .ref (sA u 10 i), .ref (sA u 11 i), .ref (sA u 12 i), .ref (sA u 13 i), .int (b2i (gB u.2.1 14 i 0)), .int (nI (gN u.2.1 15 i 0)), .int (nI (gN u.2.1 16 i 0)), .int (nI (gN u.2.1 17 i 0)), .int (nI (gN u.2.1 18 i 0)), .int (nI (gN u.2.1 19 i 0)), .int (nI (gN u.2.1 20 i 0))] : List Value).set 12 (.int (nI (v)))) else cn env u k' i' := by
  intro k' i'
  match k' with
  | 8 =>
    by_cases h : i' = i
    · subst h; simp [cn, vN, wN, uN, up3, gN, gB, gI, gJ, sA, sM, sE]
    · simp [cn, vN, wN, uN, up3, gN, gB, gI, gJ, sA, sM, sE, h]
  | 0 => rfl
  | 1 => rfl
  | 2 => rfl
  | 3 => rfl
  | 4 => rfl
  | 5 => rfl
  | 6 => rfl
  | 7 => rfl
  | 9 => rfl
  | 10 => rfl
  | 11 => rfl
  | 12 => rfl
  | 13 => rfl
  | 14 => rfl
  | 15 => rfl
  | 16 => rfl
  | 17 => rfl
  | 18 => rfl
  | 19 => rfl
  | 20 => rfl
  | 21 => rfl
  | 22 => rfl
  | 23 => rfl
  | 24 => rfl
  | 25 => rfl
  | 26 => rfl
  | 27 => rfl
  | 28 => rfl
  | 29 => rfl
  | 30 => rfl
  | 31 => rfl
  | 32 => rfl
  | 33 => rfl
  | 34 => rfl
  | 35 => rfl
  | 36 => rfl
  | 37 => rfl
  | 38 => rfl
  | 39 => rfl
  | 40 => rfl
  | 41 => rfl
  | 42 => rfl
  | 43 => rfl
  | 44 => rfl
  | 45 => rfl
  | 46 => rfl
  | 47 => rfl
  | _ + 48 => rfl
set_option maxHeartbeats 1000000 in
theorem cu_N20 (env : Ev) (u : St) (i : Nat) (v : Nat) : ∀ k' i', cn env (vN u 20 i 0 v) k' i' = if k' = 8 ∧ i' = i then .inr (4, ([.int (nI i), .ref (sA u 5 (gN u.2.1 26 i 0)), .ref (sA u 9 i), .ref (sA u 10 i), .ref (sA u 11 i), .ref (sA u 12 i), .ref (sA u 13 i), .int (b2i (gB u.2.1 14 i 0)), .int (nI (gN u.2.1 15 i 0)), .int (nI (gN u.2.1 16 i 0)), .int (nI (gN u.2.1 17 i 0)), .int (nI (gN u.2.1 18 i 0)), .int (nI (gN u.2.1 19 i 0)), .int (nI (gN u.2.1 20 i 0))] : List Value).set 13 (.int (nI (v)))) else cn env u k' i' := by
  intro k' i'
  match k' with
  | 8 =>
    by_cases h : i' = i
    · subst h; simp [cn, vN, wN, uN, up3, gN, gB, gI, gJ, sA, sM, sE]
    · simp [cn, vN, wN, uN, up3, gN, gB, gI, gJ, sA, sM, sE, h]
  | 0 => rfl
  | 1 => rfl
  | 2 => rfl
  | 3 => rfl
  | 4 => rfl
  | 5 => rfl
  | 6 => rfl
  | 7 => rfl
  | 9 => rfl
  | 10 => rfl
  | 11 => rfl
  | 12 => rfl
  | 13 => rfl
  | 14 => rfl
  | 15 => rfl
  | 16 => rfl
  | 17 => rfl
  | 18 => rfl
  | 19 => rfl
  | 20 => rfl
  | 21 => rfl
  | 22 => rfl
  | 23 => rfl
  | 24 => rfl
  | 25 => rfl
  | 26 => rfl
  | 27 => rfl
  | 28 => rfl
  | 29 => rfl
  | 30 => rfl
  | 31 => rfl
  | 32 => rfl
  | 33 => rfl
  | 34 => rfl
  | 35 => rfl
  | 36 => rfl
  | 37 => rfl
  | 38 => rfl
  | 39 => rfl
  | 40 => rfl
  | 41 => rfl
  | 42 => rfl
  | 43 => rfl
  | 44 => rfl
  | 45 => rfl
  | 46 => rfl
  | 47 => rfl
  | _ + 48 => rfl
set_option maxHeartbeats 1000000 in
theorem cu_N50 (env : Ev) (u : St) (i : Nat) (v : Nat) : ∀ k' i', cn env (wN u 50 i 0 v) k' i' = if k' = 20 ∧ i' = i then .inr (6, ([.int (nI (gN u.2.2 50 i 0)), .int (nI (gN u.2.2 51 i 0)), .int (nI (gN u.2.2 52 i 0)), .ref (sA u 24 0), .ref (sA u 25 0), .int (nI (gN u.2.2 55 i 0)), .ref (sA u 27 0), .ref (sA u 28 0), .ref (sA u 29 0), .ref (sA u 30 0), .ref (sA u 31 0), .ref (sA u 32 0), .ref (sA u 33 0), .ref (sA u 34 0), .ref (sA u 35 0), .ref (sA u 36 0), .ref (sA u 37 0), .ref (sA u 38 0), .ref (sA u 39 0), .ref (sA u 40 0), .ref (sA u 41 0), .ref (sA u 42 0), .int (nI (gN u.2.2 72 i 0)), .ref (sA u 44 0), .ref (sA u 45 0), .ref (sA u 46 0), .ref (sA u 47 0)] : List Value).set 0 (.int (nI (v)))) else cn env u k' i' := by
  intro k' i'
  match k' with
  | 20 =>
    by_cases h : i' = i
    · subst h; simp [cn, vN, wN, uN, up3, gN, gB, gI, gJ, sA, sM, sE]
    · simp [cn, vN, wN, uN, up3, gN, gB, gI, gJ, sA, sM, sE, h]
  | 0 => rfl
  | 1 => rfl
  | 2 => rfl
  | 3 => rfl
  | 4 => rfl
  | 5 => rfl
  | 6 => rfl
  | 7 => rfl
  | 8 => rfl
  | 9 => rfl
  | 10 => rfl
  | 11 => rfl
  | 12 => rfl
  | 13 => rfl
  | 14 => rfl
  | 15 => rfl
  | 16 => rfl
  | 17 => rfl
  | 18 => rfl
  | 19 => rfl
  | 21 => rfl
  | 22 => rfl
  | 23 => rfl
  | 24 => rfl
  | 25 => rfl
  | 26 => rfl
  | 27 => rfl
  | 28 => rfl
  | 29 => rfl
  | 30 => rfl
  | 31 => rfl
  | 32 => rfl
  | 33 => rfl
  | 34 => rfl
  | 35 => rfl
  | 36 => rfl
  | 37 => rfl
  | 38 => rfl
  | 39 => rfl
  | 40 => rfl
  | 41 => rfl
  | 42 => rfl
  | 43 => rfl
  | 44 => rfl
  | 45 => rfl
  | 46 => rfl
  | 47 => rfl
  | _ + 48 => rfl
set_option maxHeartbeats 1000000 in
theorem cu_N51 (env : Ev) (u : St) (i : Nat) (v : Nat) : ∀ k' i', cn env (wN u 51 i 0 v) k' i' = if k' = 20 ∧ i' = i then .inr (6, ([.int (nI (gN u.2.2 50 i 0)), .int (nI (gN u.2.2 51 i 0)), .int (nI (gN u.2.2 52 i 0)), .ref (sA u 24 0), .ref (sA u 25 0), .int (nI (gN u.2.2 55 i 0)), .ref (sA u 27 0), .ref (sA u 28 0), .ref (sA u 29 0), .ref (sA u 30 0), .ref (sA u 31 0), .ref (sA u 32 0), .ref (sA u 33 0), .ref (sA u 34 0), .ref (sA u 35 0), .ref (sA u 36 0), .ref (sA u 37 0), .ref (sA u 38 0), .ref (sA u 39 0), .ref (sA u 40 0), .ref (sA u 41 0), .ref (sA u 42 0), .int (nI (gN u.2.2 72 i 0)), .ref (sA u 44 0), .ref (sA u 45 0), .ref (sA u 46 0), .ref (sA u 47 0)] : List Value).set 1 (.int (nI (v)))) else cn env u k' i' := by
  intro k' i'
  match k' with
  | 20 =>
    by_cases h : i' = i
    · subst h; simp [cn, vN, wN, uN, up3, gN, gB, gI, gJ, sA, sM, sE]
    · simp [cn, vN, wN, uN, up3, gN, gB, gI, gJ, sA, sM, sE, h]
  | 0 => rfl
  | 1 => rfl
  | 2 => rfl
  | 3 => rfl
  | 4 => rfl
  | 5 => rfl
  | 6 => rfl
  | 7 => rfl
  | 8 => rfl
  | 9 => rfl
  | 10 => rfl
  | 11 => rfl
  | 12 => rfl
  | 13 => rfl
  | 14 => rfl
  | 15 => rfl
  | 16 => rfl
  | 17 => rfl
  | 18 => rfl
  | 19 => rfl
  | 21 => rfl
  | 22 => rfl
  | 23 => rfl
  | 24 => rfl
  | 25 => rfl
  | 26 => rfl
  | 27 => rfl
  | 28 => rfl
  | 29 => rfl
  | 30 => rfl
  | 31 => rfl
  | 32 => rfl
  | 33 => rfl
  | 34 => rfl
  | 35 => rfl
  | 36 => rfl
  | 37 => rfl
  | 38 => rfl
  | 39 => rfl
  | 40 => rfl
  | 41 => rfl
  | 42 => rfl
  | 43 => rfl
  | 44 => rfl
  | 45 => rfl
  | 46 => rfl
  | 47 => rfl
  | _ + 48 => rfl
set_option maxHeartbeats 1000000 in
theorem cu_N52 (env : Ev) (u : St) (i : Nat) (v : Nat) : ∀ k' i', cn env (wN u 52 i 0 v) k' i' = if k' = 20 ∧ i' = i then .inr (6, ([.int (nI (gN u.2.2 50 i 0)), .int (nI (gN u.2.2 51 i 0)), .int (nI (gN u.2.2 52 i 0)), .ref (sA u 24 0), .ref (sA u 25 0), .int (nI (gN u.2.2 55 i 0)), .ref (sA u 27 0), .ref (sA u 28 0), .ref (sA u 29 0), .ref (sA u 30 0), .ref (sA u 31 0), .ref (sA u 32 0), .ref (sA u 33 0), .ref (sA u 34 0), .ref (sA u 35 0), .ref (sA u 36 0), .ref (sA u 37 0), .ref (sA u 38 0), .ref (sA u 39 0), .ref (sA u 40 0), .ref (sA u 41 0), .ref (sA u 42 0), .int (nI (gN u.2.2 72 i 0)), .ref (sA u 44 0), .ref (sA u 45 0), .ref (sA u 46 0), .ref (sA u 47 0)] : List Value).set 2 (.int (nI (v)))) else cn env u k' i' := by
  intro k' i'
  match k' with
  | 20 =>
    by_cases h : i' = i
    · subst h; simp [cn, vN, wN, uN, up3, gN, gB, gI, gJ, sA, sM, sE]
    · simp [cn, vN, wN, uN, up3, gN, gB, gI, gJ, sA, sM, sE, h]
  | 0 => rfl
  | 1 => rfl
  | 2 => rfl
  | 3 => rfl
  | 4 => rfl
  | 5 => rfl
  | 6 => rfl
  | 7 => rfl
  | 8 => rfl
  | 9 => rfl
  | 10 => rfl
  | 11 => rfl
  | 12 => rfl
  | 13 => rfl
  | 14 => rfl
  | 15 => rfl
  | 16 => rfl
  | 17 => rfl
  | 18 => rfl
  | 19 => rfl
  | 21 => rfl
  | 22 => rfl
  | 23 => rfl
  | 24 => rfl
  | 25 => rfl
  | 26 => rfl
  | 27 => rfl
  | 28 => rfl
  | 29 => rfl
  | 30 => rfl
  | 31 => rfl
  | 32 => rfl
  | 33 => rfl
  | 34 => rfl
  | 35 => rfl
  | 36 => rfl
  | 37 => rfl
  | 38 => rfl
  | 39 => rfl
  | 40 => rfl
  | 41 => rfl
  | 42 => rfl
  | 43 => rfl
  | 44 => rfl
  | 45 => rfl
  | 46 => rfl
  | 47 => rfl
  | _ + 48 => rfl
set_option maxHeartbeats 1000000 in
theorem cu_N55 (env : Ev) (u : St) (i : Nat) (v : Nat) : ∀ k' i', cn env (wN u 55 i 0 v) k' i' = if k' = 20 ∧ i' = i then .inr (6, ([.int (nI (gN u.2.2 50 i 0)), .int (nI (gN u.2.2 51 i 0)), .int (nI (gN u.2.2 52 i 0)), .ref (sA u 24 0), .ref (sA u 25 0), .int (nI (gN u.2.2 55 i 0)), .ref (sA u 27 0), .ref (sA u 28 0), .ref (sA u 29 0), .ref (sA u 30 0), .ref (sA u 31 0), .ref (sA u 32 0), .ref (sA u 33 0), .ref (sA u 34 0), .ref (sA u 35 0), .ref (sA u 36 0), .ref (sA u 37 0), .ref (sA u 38 0), .ref (sA u 39 0), .ref (sA u 40 0), .ref (sA u 41 0), .ref (sA u 42 0), .int (nI (gN u.2.2 72 i 0)), .ref (sA u 44 0), .ref (sA u 45 0), .ref (sA u 46 0), .ref (sA u 47 0)] : List Value).set 5 (.int (nI (v)))) else cn env u k' i' := by
  intro k' i'
  match k' with
  | 20 =>
    by_cases h : i' = i
    · subst h; simp [cn, vN, wN, uN, up3, gN, gB, gI, gJ, sA, sM, sE]
    · simp [cn, vN, wN, uN, up3, gN, gB, gI, gJ, sA, sM, sE, h]
  | 0 => rfl
  | 1 => rfl
  | 2 => rfl
  | 3 => rfl
  | 4 => rfl
  | 5 => rfl
  | 6 => rfl
  | 7 => rfl
  | 8 => rfl
  | 9 => rfl
  | 10 => rfl
  | 11 => rfl
  | 12 => rfl
  | 13 => rfl
  | 14 => rfl
  | 15 => rfl
  | 16 => rfl
  | 17 => rfl
  | 18 => rfl
  | 19 => rfl
  | 21 => rfl
  | 22 => rfl
  | 23 => rfl
  | 24 => rfl
  | 25 => rfl
  | 26 => rfl
  | 27 => rfl
  | 28 => rfl
  | 29 => rfl
  | 30 => rfl
  | 31 => rfl
  | 32 => rfl
  | 33 => rfl
  | 34 => rfl
  | 35 => rfl
  | 36 => rfl
  | 37 => rfl
  | 38 => rfl
  | 39 => rfl
  | 40 => rfl
  | 41 => rfl
  | 42 => rfl
  | 43 => rfl
  | 44 => rfl
  | 45 => rfl
  | 46 => rfl
  | 47 => rfl
  | _ + 48 => rfl
set_option maxHeartbeats 1000000 in
theorem cu_N72 (env : Ev) (u : St) (i : Nat) (v : Nat) : ∀ k' i', cn env (wN u 72 i 0 v) k' i' = if k' = 20 ∧ i' = i then .inr (6, ([.int (nI (gN u.2.2 50 i 0)), .int (nI (gN u.2.2 51 i 0)), .int (nI (gN u.2.2 52 i 0)), .ref (sA u 24 0), .ref (sA u 25 0), .int (nI (gN u.2.2 55 i 0)), .ref (sA u 27 0), .ref (sA u 28 0), .ref (sA u 29 0), .ref (sA u 30 0), .ref (sA u 31 0), .ref (sA u 32 0), .ref (sA u 33 0), .ref (sA u 34 0), .ref (sA u 35 0), .ref (sA u 36 0), .ref (sA u 37 0), .ref (sA u 38 0), .ref (sA u 39 0), .ref (sA u 40 0), .ref (sA u 41 0), .ref (sA u 42 0), .int (nI (gN u.2.2 72 i 0)), .ref (sA u 44 0), .ref (sA u 45 0), .ref (sA u 46 0), .ref (sA u 47 0)] : List Value).set 22 (.int (nI (v)))) else cn env u k' i' := by
  intro k' i'
  match k' with
  | 20 =>
    by_cases h : i' = i
    · subst h; simp [cn, vN, wN, uN, up3, gN, gB, gI, gJ, sA, sM, sE]
    · simp [cn, vN, wN, uN, up3, gN, gB, gI, gJ, sA, sM, sE, h]
  | 0 => rfl
  | 1 => rfl
  | 2 => rfl
  | 3 => rfl
  | 4 => rfl
  | 5 => rfl
  | 6 => rfl
  | 7 => rfl
  | 8 => rfl
  | 9 => rfl
  | 10 => rfl
  | 11 => rfl
  | 12 => rfl
  | 13 => rfl
  | 14 => rfl
  | 15 => rfl
  | 16 => rfl
  | 17 => rfl
  | 18 => rfl
  | 19 => rfl
  | 21 => rfl
  | 22 => rfl
  | 23 => rfl
  | 24 => rfl
  | 25 => rfl
  | 26 => rfl
  | 27 => rfl
  | 28 => rfl
  | 29 => rfl
  | 30 => rfl
  | 31 => rfl
  | 32 => rfl
  | 33 => rfl
  | 34 => rfl
  | 35 => rfl
  | 36 => rfl
  | 37 => rfl
  | 38 => rfl
  | 39 => rfl
  | 40 => rfl
  | 41 => rfl
  | 42 => rfl
  | 43 => rfl
  | 44 => rfl
  | 45 => rfl
  | 46 => rfl
  | 47 => rfl
  | _ + 48 => rfl
set_option maxHeartbeats 1000000 in
theorem cu_N6 (env : Ev) (u : St) (i j : Nat) (v : Nat) : ∀ k' i', cn env (vN u 6 i j v) k' i' = if k' = 6 ∧ i' = i then .inl (env.2.1 0, 4, .inl (upd (fun j => nI (gN u.2.1 6 i j)) j (nI (v)))) else cn env u k' i' := by
  intro k' i'
  match k' with
  | 6 =>
    show (.inl (env.2.1 0, 4, .inl (fun j' => nI (up3 (gN u.2.1) 6 i j v 6 i' j'))) : va_E) = _
    by_cases h : i' = i
    · subst h
      rw [if_pos ⟨rfl, rfl⟩, show (fun j' => nI (up3 (gN u.2.1) 6 i' j v 6 i' j')) = upd (fun j => nI (gN u.2.1 6 i' j)) j (nI (v)) from by funext j'; by_cases hj : j' = j <;> simp [up3, upd, hj]]
    · rw [if_neg (fun hh => h hh.2), show (fun j' => nI (up3 (gN u.2.1) 6 i j v 6 i' j')) = (fun j => nI (gN u.2.1 6 i' j)) from by funext j'; simp [up3, h]]
      rfl
  | 0 => rfl
  | 1 => rfl
  | 2 => rfl
  | 3 => rfl
  | 4 => rfl
  | 5 => rfl
  | 7 => rfl
  | 8 => rfl
  | 9 => rfl
  | 10 => rfl
  | 11 => rfl
  | 12 => rfl
  | 13 => rfl
  | 14 => rfl
  | 15 => rfl
  | 16 => rfl
  | 17 => rfl
  | 18 => rfl
  | 19 => rfl
  | 20 => rfl
  | 21 => rfl
  | 22 => rfl
  | 23 => rfl
  | 24 => rfl
  | 25 => rfl
  | 26 => rfl
  | 27 => rfl
  | 28 => rfl
  | 29 => rfl
  | 30 => rfl
  | 31 => rfl
  | 32 => rfl
  | 33 => rfl
  | 34 => rfl
  | 35 => rfl
  | 36 => rfl
  | 37 => rfl
  | 38 => rfl
  | 39 => rfl
  | 40 => rfl
  | 41 => rfl
  | 42 => rfl
  | 43 => rfl
  | 44 => rfl
  | 45 => rfl
  | 46 => rfl
  | 47 => rfl
  | _ + 48 => rfl
set_option maxHeartbeats 1000000 in
theorem cu_I7 (env : Ev) (u : St) (i j : Nat) (v : Int32) : ∀ k' i', cn env (vI u 7 i j v) k' i' = if k' = 7 ∧ i' = i then .inl (env.2.1 0, 12, .inl (upd (fun j => gI u.2.1 7 i j) j (v))) else cn env u k' i' := by
  intro k' i'
  match k' with
  | 7 =>
    show (.inl (env.2.1 0, 12, .inl (fun j' => up3 (gI u.2.1) 7 i j v 7 i' j')) : va_E) = _
    by_cases h : i' = i
    · subst h
      rw [if_pos ⟨rfl, rfl⟩, show (fun j' => up3 (gI u.2.1) 7 i' j v 7 i' j') = upd (fun j => gI u.2.1 7 i' j) j (v) from by funext j'; by_cases hj : j' = j <;> simp [up3, upd, hj]]
    · rw [if_neg (fun hh => h hh.2), show (fun j' => up3 (gI u.2.1) 7 i j v 7 i' j') = (fun j => gI u.2.1 7 i' j) from by funext j'; simp [up3, h]]
      rfl
  | 0 => rfl
  | 1 => rfl
  | 2 => rfl
  | 3 => rfl
  | 4 => rfl
  | 5 => rfl
  | 6 => rfl
  | 8 => rfl
  | 9 => rfl
  | 10 => rfl
  | 11 => rfl
  | 12 => rfl
  | 13 => rfl
  | 14 => rfl
  | 15 => rfl
  | 16 => rfl
  | 17 => rfl
  | 18 => rfl
  | 19 => rfl
  | 20 => rfl
  | 21 => rfl
  | 22 => rfl
  | 23 => rfl
  | 24 => rfl
  | 25 => rfl
  | 26 => rfl
  | 27 => rfl
  | 28 => rfl
  | 29 => rfl
  | 30 => rfl
  | 31 => rfl
  | 32 => rfl
  | 33 => rfl
  | 34 => rfl
  | 35 => rfl
  | 36 => rfl
  | 37 => rfl
  | 38 => rfl
  | 39 => rfl
  | 40 => rfl
  | 41 => rfl
  | 42 => rfl
  | 43 => rfl
  | 44 => rfl
  | 45 => rfl
  | 46 => rfl
  | 47 => rfl
  | _ + 48 => rfl
set_option maxHeartbeats 1000000 in
theorem cu_B10 (env : Ev) (u : St) (i j : Nat) (v : Bool) : ∀ k' i', cn env (vB u 10 i j v) k' i' = if k' = 10 ∧ i' = i then .inl (env.2.1 2, 12, .inl (upd (fun j => b2i (gB u.2.1 10 i j)) j (b2i (v)))) else cn env u k' i' := by
  intro k' i'
  match k' with
  | 10 =>
    show (.inl (env.2.1 2, 12, .inl (fun j' => b2i (up3 (gB u.2.1) 10 i j v 10 i' j'))) : va_E) = _
    by_cases h : i' = i
    · subst h
      rw [if_pos ⟨rfl, rfl⟩, show (fun j' => b2i (up3 (gB u.2.1) 10 i' j v 10 i' j')) = upd (fun j => b2i (gB u.2.1 10 i' j)) j (b2i (v)) from by funext j'; by_cases hj : j' = j <;> simp [up3, upd, hj]]
    · rw [if_neg (fun hh => h hh.2), show (fun j' => b2i (up3 (gB u.2.1) 10 i j v 10 i' j')) = (fun j => b2i (gB u.2.1 10 i' j)) from by funext j'; simp [up3, h]]
      rfl
  | 0 => rfl
  | 1 => rfl
  | 2 => rfl
  | 3 => rfl
  | 4 => rfl
  | 5 => rfl
  | 6 => rfl
  | 7 => rfl
  | 8 => rfl
  | 9 => rfl
  | 11 => rfl
  | 12 => rfl
  | 13 => rfl
  | 14 => rfl
  | 15 => rfl
  | 16 => rfl
  | 17 => rfl
  | 18 => rfl
  | 19 => rfl
  | 20 => rfl
  | 21 => rfl
  | 22 => rfl
  | 23 => rfl
  | 24 => rfl
  | 25 => rfl
  | 26 => rfl
  | 27 => rfl
  | 28 => rfl
  | 29 => rfl
  | 30 => rfl
  | 31 => rfl
  | 32 => rfl
  | 33 => rfl
  | 34 => rfl
  | 35 => rfl
  | 36 => rfl
  | 37 => rfl
  | 38 => rfl
  | 39 => rfl
  | 40 => rfl
  | 41 => rfl
  | 42 => rfl
  | 43 => rfl
  | 44 => rfl
  | 45 => rfl
  | 46 => rfl
  | 47 => rfl
  | _ + 48 => rfl
set_option maxHeartbeats 1000000 in
theorem cu_J11 (env : Ev) (u : St) (i j : Nat) (v : Int64) : ∀ k' i', cn env (vJ u 11 i j v) k' i' = if k' = 11 ∧ i' = i then .inl (env.2.1 1, 12, .inr (.inl (vp_updL (fun j => gJ u.2.1 11 i j) j (v)))) else cn env u k' i' := by
  intro k' i'
  match k' with
  | 11 =>
    show (.inl (env.2.1 1, 12, .inr (.inl (fun j' => up3 (gJ u.2.1) 11 i j v 11 i' j'))) : va_E) = _
    by_cases h : i' = i
    · subst h
      rw [if_pos ⟨rfl, rfl⟩, show (fun j' => up3 (gJ u.2.1) 11 i' j v 11 i' j') = vp_updL (fun j => gJ u.2.1 11 i' j) j (v) from by funext j'; by_cases hj : j' = j <;> simp [up3, vp_updL, hj]]
    · rw [if_neg (fun hh => h hh.2), show (fun j' => up3 (gJ u.2.1) 11 i j v 11 i' j') = (fun j => gJ u.2.1 11 i' j) from by funext j'; simp [up3, h]]
      rfl
  | 0 => rfl
  | 1 => rfl
  | 2 => rfl
  | 3 => rfl
  | 4 => rfl
  | 5 => rfl
  | 6 => rfl
  | 7 => rfl
  | 8 => rfl
  | 9 => rfl
  | 10 => rfl
  | 12 => rfl
  | 13 => rfl
  | 14 => rfl
  | 15 => rfl
  | 16 => rfl
  | 17 => rfl
  | 18 => rfl
  | 19 => rfl
  | 20 => rfl
  | 21 => rfl
  | 22 => rfl
  | 23 => rfl
  | 24 => rfl
  | 25 => rfl
  | 26 => rfl
  | 27 => rfl
  | 28 => rfl
  | 29 => rfl
  | 30 => rfl
  | 31 => rfl
  | 32 => rfl
  | 33 => rfl
  | 34 => rfl
  | 35 => rfl
  | 36 => rfl
  | 37 => rfl
  | 38 => rfl
  | 39 => rfl
  | 40 => rfl
  | 41 => rfl
  | 42 => rfl
  | 43 => rfl
  | 44 => rfl
  | 45 => rfl
  | 46 => rfl
  | 47 => rfl
  | _ + 48 => rfl
set_option maxHeartbeats 1000000 in
theorem cu_J12 (env : Ev) (u : St) (i j : Nat) (v : Int64) : ∀ k' i', cn env (vJ u 12 i j v) k' i' = if k' = 12 ∧ i' = i then .inl (env.2.1 1, 96, .inr (.inl (vp_updL (fun j => gJ u.2.1 12 i j) j (v)))) else cn env u k' i' := by
  intro k' i'
  match k' with
  | 12 =>
    show (.inl (env.2.1 1, 96, .inr (.inl (fun j' => up3 (gJ u.2.1) 12 i j v 12 i' j'))) : va_E) = _
    by_cases h : i' = i
    · subst h
      rw [if_pos ⟨rfl, rfl⟩, show (fun j' => up3 (gJ u.2.1) 12 i' j v 12 i' j') = vp_updL (fun j => gJ u.2.1 12 i' j) j (v) from by funext j'; by_cases hj : j' = j <;> simp [up3, vp_updL, hj]]
    · rw [if_neg (fun hh => h hh.2), show (fun j' => up3 (gJ u.2.1) 12 i j v 12 i' j') = (fun j => gJ u.2.1 12 i' j) from by funext j'; simp [up3, h]]
      rfl
  | 0 => rfl
  | 1 => rfl
  | 2 => rfl
  | 3 => rfl
  | 4 => rfl
  | 5 => rfl
  | 6 => rfl
  | 7 => rfl
  | 8 => rfl
  | 9 => rfl
  | 10 => rfl
  | 11 => rfl
  | 13 => rfl
  | 14 => rfl
  | 15 => rfl
  | 16 => rfl
  | 17 => rfl
  | 18 => rfl
  | 19 => rfl
  | 20 => rfl
  | 21 => rfl
  | 22 => rfl
  | 23 => rfl
  | 24 => rfl
  | 25 => rfl
  | 26 => rfl
  | 27 => rfl
  | 28 => rfl
  | 29 => rfl
  | 30 => rfl
  | 31 => rfl
  | 32 => rfl
  | 33 => rfl
  | 34 => rfl
  | 35 => rfl
  | 36 => rfl
  | 37 => rfl
  | 38 => rfl
  | 39 => rfl
  | 40 => rfl
  | 41 => rfl
  | 42 => rfl
  | 43 => rfl
  | 44 => rfl
  | 45 => rfl
  | 46 => rfl
  | 47 => rfl
  | _ + 48 => rfl
set_option maxHeartbeats 1000000 in
theorem cu_B13 (env : Ev) (u : St) (i j : Nat) (v : Bool) : ∀ k' i', cn env (vB u 13 i j v) k' i' = if k' = 13 ∧ i' = i then .inl (env.2.1 2, 4, .inl (upd (fun j => b2i (gB u.2.1 13 i j)) j (b2i (v)))) else cn env u k' i' := by
  intro k' i'
  match k' with
  | 13 =>
    show (.inl (env.2.1 2, 4, .inl (fun j' => b2i (up3 (gB u.2.1) 13 i j v 13 i' j'))) : va_E) = _
    by_cases h : i' = i
    · subst h
      rw [if_pos ⟨rfl, rfl⟩, show (fun j' => b2i (up3 (gB u.2.1) 13 i' j v 13 i' j')) = upd (fun j => b2i (gB u.2.1 13 i' j)) j (b2i (v)) from by funext j'; by_cases hj : j' = j <;> simp [up3, upd, hj]]
    · rw [if_neg (fun hh => h hh.2), show (fun j' => b2i (up3 (gB u.2.1) 13 i j v 13 i' j')) = (fun j => b2i (gB u.2.1 13 i' j)) from by funext j'; simp [up3, h]]
      rfl
  | 0 => rfl
  | 1 => rfl
  | 2 => rfl
  | 3 => rfl
  | 4 => rfl
  | 5 => rfl
  | 6 => rfl
  | 7 => rfl
  | 8 => rfl
  | 9 => rfl
  | 10 => rfl
  | 11 => rfl
  | 12 => rfl
  | 14 => rfl
  | 15 => rfl
  | 16 => rfl
  | 17 => rfl
  | 18 => rfl
  | 19 => rfl
  | 20 => rfl
  | 21 => rfl
  | 22 => rfl
  | 23 => rfl
  | 24 => rfl
  | 25 => rfl
  | 26 => rfl
  | 27 => rfl
  | 28 => rfl
  | 29 => rfl
  | 30 => rfl
  | 31 => rfl
  | 32 => rfl
  | 33 => rfl
  | 34 => rfl
  | 35 => rfl
  | 36 => rfl
  | 37 => rfl
  | 38 => rfl
  | 39 => rfl
  | 40 => rfl
  | 41 => rfl
  | 42 => rfl
  | 43 => rfl
  | 44 => rfl
  | 45 => rfl
  | 46 => rfl
  | 47 => rfl
  | _ + 48 => rfl
set_option maxHeartbeats 1000000 in
theorem cu_N53 (env : Ev) (u : St) (i j : Nat) (v : Nat) : ∀ k' i', cn env (wN u 53 i j v) k' i' = if k' = 24 ∧ i' = i then .inl (env.2.1 0, 12, .inl (upd (fun j => nI (gN u.2.2 53 i j)) j (nI (v)))) else cn env u k' i' := by
  intro k' i'
  match k' with
  | 24 =>
    show (.inl (env.2.1 0, 12, .inl (fun j' => nI (up3 (gN u.2.2) 53 i j v 53 i' j'))) : va_E) = _
    by_cases h : i' = i
    · subst h
      rw [if_pos ⟨rfl, rfl⟩, show (fun j' => nI (up3 (gN u.2.2) 53 i' j v 53 i' j')) = upd (fun j => nI (gN u.2.2 53 i' j)) j (nI (v)) from by funext j'; by_cases hj : j' = j <;> simp [up3, upd, hj]]
    · rw [if_neg (fun hh => h hh.2), show (fun j' => nI (up3 (gN u.2.2) 53 i j v 53 i' j')) = (fun j => nI (gN u.2.2 53 i' j)) from by funext j'; simp [up3, h]]
      rfl
  | 0 => rfl
  | 1 => rfl
  | 2 => rfl
  | 3 => rfl
  | 4 => rfl
  | 5 => rfl
  | 6 => rfl
  | 7 => rfl
  | 8 => rfl
  | 9 => rfl
  | 10 => rfl
  | 11 => rfl
  | 12 => rfl
  | 13 => rfl
  | 14 => rfl
  | 15 => rfl
  | 16 => rfl
  | 17 => rfl
  | 18 => rfl
  | 19 => rfl
  | 20 => rfl
  | 21 => rfl
  | 22 => rfl
  | 23 => rfl
  | 25 => rfl
  | 26 => rfl
  | 27 => rfl
  | 28 => rfl
  | 29 => rfl
  | 30 => rfl
  | 31 => rfl
  | 32 => rfl
  | 33 => rfl
  | 34 => rfl
  | 35 => rfl
  | 36 => rfl
  | 37 => rfl
  | 38 => rfl
  | 39 => rfl
  | 40 => rfl
  | 41 => rfl
  | 42 => rfl
  | 43 => rfl
  | 44 => rfl
  | 45 => rfl
  | 46 => rfl
  | 47 => rfl
  | _ + 48 => rfl
set_option maxHeartbeats 1000000 in
theorem cu_B54 (env : Ev) (u : St) (i j : Nat) (v : Bool) : ∀ k' i', cn env (wB u 54 i j v) k' i' = if k' = 25 ∧ i' = i then .inl (env.2.1 2, 12, .inl (upd (fun j => b2i (gB u.2.2 54 i j)) j (b2i (v)))) else cn env u k' i' := by
  intro k' i'
  match k' with
  | 25 =>
    show (.inl (env.2.1 2, 12, .inl (fun j' => b2i (up3 (gB u.2.2) 54 i j v 54 i' j'))) : va_E) = _
    by_cases h : i' = i
    · subst h
      rw [if_pos ⟨rfl, rfl⟩, show (fun j' => b2i (up3 (gB u.2.2) 54 i' j v 54 i' j')) = upd (fun j => b2i (gB u.2.2 54 i' j)) j (b2i (v)) from by funext j'; by_cases hj : j' = j <;> simp [up3, upd, hj]]
    · rw [if_neg (fun hh => h hh.2), show (fun j' => b2i (up3 (gB u.2.2) 54 i j v 54 i' j')) = (fun j => b2i (gB u.2.2 54 i' j)) from by funext j'; simp [up3, h]]
      rfl
  | 0 => rfl
  | 1 => rfl
  | 2 => rfl
  | 3 => rfl
  | 4 => rfl
  | 5 => rfl
  | 6 => rfl
  | 7 => rfl
  | 8 => rfl
  | 9 => rfl
  | 10 => rfl
  | 11 => rfl
  | 12 => rfl
  | 13 => rfl
  | 14 => rfl
  | 15 => rfl
  | 16 => rfl
  | 17 => rfl
  | 18 => rfl
  | 19 => rfl
  | 20 => rfl
  | 21 => rfl
  | 22 => rfl
  | 23 => rfl
  | 24 => rfl
  | 26 => rfl
  | 27 => rfl
  | 28 => rfl
  | 29 => rfl
  | 30 => rfl
  | 31 => rfl
  | 32 => rfl
  | 33 => rfl
  | 34 => rfl
  | 35 => rfl
  | 36 => rfl
  | 37 => rfl
  | 38 => rfl
  | 39 => rfl
  | 40 => rfl
  | 41 => rfl
  | 42 => rfl
  | 43 => rfl
  | 44 => rfl
  | 45 => rfl
  | 46 => rfl
  | 47 => rfl
  | _ + 48 => rfl
set_option maxHeartbeats 1000000 in
theorem cu_N56 (env : Ev) (u : St) (i j : Nat) (v : Nat) : ∀ k' i', cn env (wN u 56 i j v) k' i' = if k' = 27 ∧ i' = i then .inl (env.2.1 0, 150, .inl (upd (fun j => nI (gN u.2.2 56 i j)) j (nI (v)))) else cn env u k' i' := by
  intro k' i'
  match k' with
  | 27 =>
    show (.inl (env.2.1 0, 150, .inl (fun j' => nI (up3 (gN u.2.2) 56 i j v 56 i' j'))) : va_E) = _
    by_cases h : i' = i
    · subst h
      rw [if_pos ⟨rfl, rfl⟩, show (fun j' => nI (up3 (gN u.2.2) 56 i' j v 56 i' j')) = upd (fun j => nI (gN u.2.2 56 i' j)) j (nI (v)) from by funext j'; by_cases hj : j' = j <;> simp [up3, upd, hj]]
    · rw [if_neg (fun hh => h hh.2), show (fun j' => nI (up3 (gN u.2.2) 56 i j v 56 i' j')) = (fun j => nI (gN u.2.2 56 i' j)) from by funext j'; simp [up3, h]]
      rfl
  | 0 => rfl
  | 1 => rfl
  | 2 => rfl
  | 3 => rfl
  | 4 => rfl
  | 5 => rfl
  | 6 => rfl
  | 7 => rfl
  | 8 => rfl
  | 9 => rfl
  | 10 => rfl
  | 11 => rfl
  | 12 => rfl
  | 13 => rfl
  | 14 => rfl
  | 15 => rfl
  | 16 => rfl
  | 17 => rfl
  | 18 => rfl
  | 19 => rfl
  | 20 => rfl
  | 21 => rfl
  | 22 => rfl
  | 23 => rfl
  | 24 => rfl
  | 25 => rfl
  | 26 => rfl
  | 28 => rfl
  | 29 => rfl
  | 30 => rfl
  | 31 => rfl
  | 32 => rfl
  | 33 => rfl
  | 34 => rfl
  | 35 => rfl
  | 36 => rfl
  | 37 => rfl
  | 38 => rfl
  | 39 => rfl
  | 40 => rfl
  | 41 => rfl
  | 42 => rfl
  | 43 => rfl
  | 44 => rfl
  | 45 => rfl
  | 46 => rfl
  | 47 => rfl
  | _ + 48 => rfl
set_option maxHeartbeats 1000000 in
theorem cu_N57 (env : Ev) (u : St) (i j : Nat) (v : Nat) : ∀ k' i', cn env (wN u 57 i j v) k' i' = if k' = 28 ∧ i' = i then .inl (env.2.1 0, 150, .inl (upd (fun j => nI (gN u.2.2 57 i j)) j (nI (v)))) else cn env u k' i' := by
  intro k' i'
  match k' with
  | 28 =>
    show (.inl (env.2.1 0, 150, .inl (fun j' => nI (up3 (gN u.2.2) 57 i j v 57 i' j'))) : va_E) = _
    by_cases h : i' = i
    · subst h
      rw [if_pos ⟨rfl, rfl⟩, show (fun j' => nI (up3 (gN u.2.2) 57 i' j v 57 i' j')) = upd (fun j => nI (gN u.2.2 57 i' j)) j (nI (v)) from by funext j'; by_cases hj : j' = j <;> simp [up3, upd, hj]]
    · rw [if_neg (fun hh => h hh.2), show (fun j' => nI (up3 (gN u.2.2) 57 i j v 57 i' j')) = (fun j => nI (gN u.2.2 57 i' j)) from by funext j'; simp [up3, h]]
      rfl
  | 0 => rfl
  | 1 => rfl
  | 2 => rfl
  | 3 => rfl
  | 4 => rfl
  | 5 => rfl
  | 6 => rfl
  | 7 => rfl
  | 8 => rfl
  | 9 => rfl
  | 10 => rfl
  | 11 => rfl
  | 12 => rfl
  | 13 => rfl
  | 14 => rfl
  | 15 => rfl
  | 16 => rfl
  | 17 => rfl
  | 18 => rfl
  | 19 => rfl
  | 20 => rfl
  | 21 => rfl
  | 22 => rfl
  | 23 => rfl
  | 24 => rfl
  | 25 => rfl
  | 26 => rfl
  | 27 => rfl
  | 29 => rfl
  | 30 => rfl
  | 31 => rfl
  | 32 => rfl
  | 33 => rfl
  | 34 => rfl
  | 35 => rfl
  | 36 => rfl
  | 37 => rfl
  | 38 => rfl
  | 39 => rfl
  | 40 => rfl
  | 41 => rfl
  | 42 => rfl
  | 43 => rfl
  | 44 => rfl
  | 45 => rfl
  | 46 => rfl
  | 47 => rfl
  | _ + 48 => rfl
set_option maxHeartbeats 1000000 in
theorem cu_N58 (env : Ev) (u : St) (i j : Nat) (v : Nat) : ∀ k' i', cn env (wN u 58 i j v) k' i' = if k' = 29 ∧ i' = i then .inl (env.2.1 0, 600, .inl (upd (fun j => nI (gN u.2.2 58 i j)) j (nI (v)))) else cn env u k' i' := by
  intro k' i'
  match k' with
  | 29 =>
    show (.inl (env.2.1 0, 600, .inl (fun j' => nI (up3 (gN u.2.2) 58 i j v 58 i' j'))) : va_E) = _
    by_cases h : i' = i
    · subst h
      rw [if_pos ⟨rfl, rfl⟩, show (fun j' => nI (up3 (gN u.2.2) 58 i' j v 58 i' j')) = upd (fun j => nI (gN u.2.2 58 i' j)) j (nI (v)) from by funext j'; by_cases hj : j' = j <;> simp [up3, upd, hj]]
    · rw [if_neg (fun hh => h hh.2), show (fun j' => nI (up3 (gN u.2.2) 58 i j v 58 i' j')) = (fun j => nI (gN u.2.2 58 i' j)) from by funext j'; simp [up3, h]]
      rfl
  | 0 => rfl
  | 1 => rfl
  | 2 => rfl
  | 3 => rfl
  | 4 => rfl
  | 5 => rfl
  | 6 => rfl
  | 7 => rfl
  | 8 => rfl
  | 9 => rfl
  | 10 => rfl
  | 11 => rfl
  | 12 => rfl
  | 13 => rfl
  | 14 => rfl
  | 15 => rfl
  | 16 => rfl
  | 17 => rfl
  | 18 => rfl
  | 19 => rfl
  | 20 => rfl
  | 21 => rfl
  | 22 => rfl
  | 23 => rfl
  | 24 => rfl
  | 25 => rfl
  | 26 => rfl
  | 27 => rfl
  | 28 => rfl
  | 30 => rfl
  | 31 => rfl
  | 32 => rfl
  | 33 => rfl
  | 34 => rfl
  | 35 => rfl
  | 36 => rfl
  | 37 => rfl
  | 38 => rfl
  | 39 => rfl
  | 40 => rfl
  | 41 => rfl
  | 42 => rfl
  | 43 => rfl
  | 44 => rfl
  | 45 => rfl
  | 46 => rfl
  | 47 => rfl
  | _ + 48 => rfl
set_option maxHeartbeats 1000000 in
theorem cu_N59 (env : Ev) (u : St) (i j : Nat) (v : Nat) : ∀ k' i', cn env (wN u 59 i j v) k' i' = if k' = 30 ∧ i' = i then .inl (env.2.1 0, 150, .inl (upd (fun j => nI (gN u.2.2 59 i j)) j (nI (v)))) else cn env u k' i' := by
  intro k' i'
  match k' with
  | 30 =>
    show (.inl (env.2.1 0, 150, .inl (fun j' => nI (up3 (gN u.2.2) 59 i j v 59 i' j'))) : va_E) = _
    by_cases h : i' = i
    · subst h
      rw [if_pos ⟨rfl, rfl⟩, show (fun j' => nI (up3 (gN u.2.2) 59 i' j v 59 i' j')) = upd (fun j => nI (gN u.2.2 59 i' j)) j (nI (v)) from by funext j'; by_cases hj : j' = j <;> simp [up3, upd, hj]]
    · rw [if_neg (fun hh => h hh.2), show (fun j' => nI (up3 (gN u.2.2) 59 i j v 59 i' j')) = (fun j => nI (gN u.2.2 59 i' j)) from by funext j'; simp [up3, h]]
      rfl
  | 0 => rfl
  | 1 => rfl
  | 2 => rfl
  | 3 => rfl
  | 4 => rfl
  | 5 => rfl
  | 6 => rfl
  | 7 => rfl
  | 8 => rfl
  | 9 => rfl
  | 10 => rfl
  | 11 => rfl
  | 12 => rfl
  | 13 => rfl
  | 14 => rfl
  | 15 => rfl
  | 16 => rfl
  | 17 => rfl
  | 18 => rfl
  | 19 => rfl
  | 20 => rfl
  | 21 => rfl
  | 22 => rfl
  | 23 => rfl
  | 24 => rfl
  | 25 => rfl
  | 26 => rfl
  | 27 => rfl
  | 28 => rfl
  | 29 => rfl
  | 31 => rfl
  | 32 => rfl
  | 33 => rfl
  | 34 => rfl
  | 35 => rfl
  | 36 => rfl
  | 37 => rfl
  | 38 => rfl
  | 39 => rfl
  | 40 => rfl
  | 41 => rfl
  | 42 => rfl
  | 43 => rfl
  | 44 => rfl
  | 45 => rfl
  | 46 => rfl
  | 47 => rfl
  | _ + 48 => rfl
set_option maxHeartbeats 1000000 in
theorem cu_N60 (env : Ev) (u : St) (i j : Nat) (v : Nat) : ∀ k' i', cn env (wN u 60 i j v) k' i' = if k' = 31 ∧ i' = i then .inl (env.2.1 0, 150, .inl (upd (fun j => nI (gN u.2.2 60 i j)) j (nI (v)))) else cn env u k' i' := by
  intro k' i'
  match k' with
  | 31 =>
    show (.inl (env.2.1 0, 150, .inl (fun j' => nI (up3 (gN u.2.2) 60 i j v 60 i' j'))) : va_E) = _
    by_cases h : i' = i
    · subst h
      rw [if_pos ⟨rfl, rfl⟩, show (fun j' => nI (up3 (gN u.2.2) 60 i' j v 60 i' j')) = upd (fun j => nI (gN u.2.2 60 i' j)) j (nI (v)) from by funext j'; by_cases hj : j' = j <;> simp [up3, upd, hj]]
    · rw [if_neg (fun hh => h hh.2), show (fun j' => nI (up3 (gN u.2.2) 60 i j v 60 i' j')) = (fun j => nI (gN u.2.2 60 i' j)) from by funext j'; simp [up3, h]]
      rfl
  | 0 => rfl
  | 1 => rfl
  | 2 => rfl
  | 3 => rfl
  | 4 => rfl
  | 5 => rfl
  | 6 => rfl
  | 7 => rfl
  | 8 => rfl
  | 9 => rfl
  | 10 => rfl
  | 11 => rfl
  | 12 => rfl
  | 13 => rfl
  | 14 => rfl
  | 15 => rfl
  | 16 => rfl
  | 17 => rfl
  | 18 => rfl
  | 19 => rfl
  | 20 => rfl
  | 21 => rfl
  | 22 => rfl
  | 23 => rfl
  | 24 => rfl
  | 25 => rfl
  | 26 => rfl
  | 27 => rfl
  | 28 => rfl
  | 29 => rfl
  | 30 => rfl
  | 32 => rfl
  | 33 => rfl
  | 34 => rfl
  | 35 => rfl
  | 36 => rfl
  | 37 => rfl
  | 38 => rfl
  | 39 => rfl
  | 40 => rfl
  | 41 => rfl
  | 42 => rfl
  | 43 => rfl
  | 44 => rfl
  | 45 => rfl
  | 46 => rfl
  | 47 => rfl
  | _ + 48 => rfl
set_option maxHeartbeats 1000000 in
theorem cu_N61 (env : Ev) (u : St) (i j : Nat) (v : Nat) : ∀ k' i', cn env (wN u 61 i j v) k' i' = if k' = 32 ∧ i' = i then .inl (env.2.1 0, 150, .inl (upd (fun j => nI (gN u.2.2 61 i j)) j (nI (v)))) else cn env u k' i' := by
  intro k' i'
  match k' with
  | 32 =>
    show (.inl (env.2.1 0, 150, .inl (fun j' => nI (up3 (gN u.2.2) 61 i j v 61 i' j'))) : va_E) = _
    by_cases h : i' = i
    · subst h
      rw [if_pos ⟨rfl, rfl⟩, show (fun j' => nI (up3 (gN u.2.2) 61 i' j v 61 i' j')) = upd (fun j => nI (gN u.2.2 61 i' j)) j (nI (v)) from by funext j'; by_cases hj : j' = j <;> simp [up3, upd, hj]]
    · rw [if_neg (fun hh => h hh.2), show (fun j' => nI (up3 (gN u.2.2) 61 i j v 61 i' j')) = (fun j => nI (gN u.2.2 61 i' j)) from by funext j'; simp [up3, h]]
      rfl
  | 0 => rfl
  | 1 => rfl
  | 2 => rfl
  | 3 => rfl
  | 4 => rfl
  | 5 => rfl
  | 6 => rfl
  | 7 => rfl
  | 8 => rfl
  | 9 => rfl
  | 10 => rfl
  | 11 => rfl
  | 12 => rfl
  | 13 => rfl
  | 14 => rfl
  | 15 => rfl
  | 16 => rfl
  | 17 => rfl
  | 18 => rfl
  | 19 => rfl
  | 20 => rfl
  | 21 => rfl
  | 22 => rfl
  | 23 => rfl
  | 24 => rfl
  | 25 => rfl
  | 26 => rfl
  | 27 => rfl
  | 28 => rfl
  | 29 => rfl
  | 30 => rfl
  | 31 => rfl
  | 33 => rfl
  | 34 => rfl
  | 35 => rfl
  | 36 => rfl
  | 37 => rfl
  | 38 => rfl
  | 39 => rfl
  | 40 => rfl
  | 41 => rfl
  | 42 => rfl
  | 43 => rfl
  | 44 => rfl
  | 45 => rfl
  | 46 => rfl
  | 47 => rfl
  | _ + 48 => rfl
set_option maxHeartbeats 1000000 in
theorem cu_N62 (env : Ev) (u : St) (i j : Nat) (v : Nat) : ∀ k' i', cn env (wN u 62 i j v) k' i' = if k' = 33 ∧ i' = i then .inl (env.2.1 0, 150, .inl (upd (fun j => nI (gN u.2.2 62 i j)) j (nI (v)))) else cn env u k' i' := by
  intro k' i'
  match k' with
  | 33 =>
    show (.inl (env.2.1 0, 150, .inl (fun j' => nI (up3 (gN u.2.2) 62 i j v 62 i' j'))) : va_E) = _
    by_cases h : i' = i
    · subst h
      rw [if_pos ⟨rfl, rfl⟩, show (fun j' => nI (up3 (gN u.2.2) 62 i' j v 62 i' j')) = upd (fun j => nI (gN u.2.2 62 i' j)) j (nI (v)) from by funext j'; by_cases hj : j' = j <;> simp [up3, upd, hj]]
    · rw [if_neg (fun hh => h hh.2), show (fun j' => nI (up3 (gN u.2.2) 62 i j v 62 i' j')) = (fun j => nI (gN u.2.2 62 i' j)) from by funext j'; simp [up3, h]]
      rfl
  | 0 => rfl
  | 1 => rfl
  | 2 => rfl
  | 3 => rfl
  | 4 => rfl
  | 5 => rfl
  | 6 => rfl
  | 7 => rfl
  | 8 => rfl
  | 9 => rfl
  | 10 => rfl
  | 11 => rfl
  | 12 => rfl
  | 13 => rfl
  | 14 => rfl
  | 15 => rfl
  | 16 => rfl
  | 17 => rfl
  | 18 => rfl
  | 19 => rfl
  | 20 => rfl
  | 21 => rfl
  | 22 => rfl
  | 23 => rfl
  | 24 => rfl
  | 25 => rfl
  | 26 => rfl
  | 27 => rfl
  | 28 => rfl
  | 29 => rfl
  | 30 => rfl
  | 31 => rfl
  | 32 => rfl
  | 34 => rfl
  | 35 => rfl
  | 36 => rfl
  | 37 => rfl
  | 38 => rfl
  | 39 => rfl
  | 40 => rfl
  | 41 => rfl
  | 42 => rfl
  | 43 => rfl
  | 44 => rfl
  | 45 => rfl
  | 46 => rfl
  | 47 => rfl
  | _ + 48 => rfl
set_option maxHeartbeats 1000000 in
theorem cu_B63 (env : Ev) (u : St) (i j : Nat) (v : Bool) : ∀ k' i', cn env (wB u 63 i j v) k' i' = if k' = 34 ∧ i' = i then .inl (env.2.1 2, 600, .inl (upd (fun j => b2i (gB u.2.2 63 i j)) j (b2i (v)))) else cn env u k' i' := by
  intro k' i'
  match k' with
  | 34 =>
    show (.inl (env.2.1 2, 600, .inl (fun j' => b2i (up3 (gB u.2.2) 63 i j v 63 i' j'))) : va_E) = _
    by_cases h : i' = i
    · subst h
      rw [if_pos ⟨rfl, rfl⟩, show (fun j' => b2i (up3 (gB u.2.2) 63 i' j v 63 i' j')) = upd (fun j => b2i (gB u.2.2 63 i' j)) j (b2i (v)) from by funext j'; by_cases hj : j' = j <;> simp [up3, upd, hj]]
    · rw [if_neg (fun hh => h hh.2), show (fun j' => b2i (up3 (gB u.2.2) 63 i j v 63 i' j')) = (fun j => b2i (gB u.2.2 63 i' j)) from by funext j'; simp [up3, h]]
      rfl
  | 0 => rfl
  | 1 => rfl
  | 2 => rfl
  | 3 => rfl
  | 4 => rfl
  | 5 => rfl
  | 6 => rfl
  | 7 => rfl
  | 8 => rfl
  | 9 => rfl
  | 10 => rfl
  | 11 => rfl
  | 12 => rfl
  | 13 => rfl
  | 14 => rfl
  | 15 => rfl
  | 16 => rfl
  | 17 => rfl
  | 18 => rfl
  | 19 => rfl
  | 20 => rfl
  | 21 => rfl
  | 22 => rfl
  | 23 => rfl
  | 24 => rfl
  | 25 => rfl
  | 26 => rfl
  | 27 => rfl
  | 28 => rfl
  | 29 => rfl
  | 30 => rfl
  | 31 => rfl
  | 32 => rfl
  | 33 => rfl
  | 35 => rfl
  | 36 => rfl
  | 37 => rfl
  | 38 => rfl
  | 39 => rfl
  | 40 => rfl
  | 41 => rfl
  | 42 => rfl
  | 43 => rfl
  | 44 => rfl
  | 45 => rfl
  | 46 => rfl
  | 47 => rfl
  | _ + 48 => rfl
set_option maxHeartbeats 1000000 in
theorem cu_B64 (env : Ev) (u : St) (i j : Nat) (v : Bool) : ∀ k' i', cn env (wB u 64 i j v) k' i' = if k' = 35 ∧ i' = i then .inl (env.2.1 2, 1800, .inl (upd (fun j => b2i (gB u.2.2 64 i j)) j (b2i (v)))) else cn env u k' i' := by
  intro k' i'
  match k' with
  | 35 =>
    show (.inl (env.2.1 2, 1800, .inl (fun j' => b2i (up3 (gB u.2.2) 64 i j v 64 i' j'))) : va_E) = _
    by_cases h : i' = i
    · subst h
      rw [if_pos ⟨rfl, rfl⟩, show (fun j' => b2i (up3 (gB u.2.2) 64 i' j v 64 i' j')) = upd (fun j => b2i (gB u.2.2 64 i' j)) j (b2i (v)) from by funext j'; by_cases hj : j' = j <;> simp [up3, upd, hj]]
    · rw [if_neg (fun hh => h hh.2), show (fun j' => b2i (up3 (gB u.2.2) 64 i j v 64 i' j')) = (fun j => b2i (gB u.2.2 64 i' j)) from by funext j'; simp [up3, h]]
      rfl
  | 0 => rfl
  | 1 => rfl
  | 2 => rfl
  | 3 => rfl
  | 4 => rfl
  | 5 => rfl
  | 6 => rfl
  | 7 => rfl
  | 8 => rfl
  | 9 => rfl
  | 10 => rfl
  | 11 => rfl
  | 12 => rfl
  | 13 => rfl
  | 14 => rfl
  | 15 => rfl
  | 16 => rfl
  | 17 => rfl
  | 18 => rfl
  | 19 => rfl
  | 20 => rfl
  | 21 => rfl
  | 22 => rfl
  | 23 => rfl
  | 24 => rfl
  | 25 => rfl
  | 26 => rfl
  | 27 => rfl
  | 28 => rfl
  | 29 => rfl
  | 30 => rfl
  | 31 => rfl
  | 32 => rfl
  | 33 => rfl
  | 34 => rfl
  | 36 => rfl
  | 37 => rfl
  | 38 => rfl
  | 39 => rfl
  | 40 => rfl
  | 41 => rfl
  | 42 => rfl
  | 43 => rfl
  | 44 => rfl
  | 45 => rfl
  | 46 => rfl
  | 47 => rfl
  | _ + 48 => rfl
set_option maxHeartbeats 1000000 in
theorem cu_J65 (env : Ev) (u : St) (i j : Nat) (v : Int64) : ∀ k' i', cn env (wJ u 65 i j v) k' i' = if k' = 36 ∧ i' = i then .inl (env.2.1 1, 1800, .inr (.inl (vp_updL (fun j => gJ u.2.2 65 i j) j (v)))) else cn env u k' i' := by
  intro k' i'
  match k' with
  | 36 =>
    show (.inl (env.2.1 1, 1800, .inr (.inl (fun j' => up3 (gJ u.2.2) 65 i j v 65 i' j'))) : va_E) = _
    by_cases h : i' = i
    · subst h
      rw [if_pos ⟨rfl, rfl⟩, show (fun j' => up3 (gJ u.2.2) 65 i' j v 65 i' j') = vp_updL (fun j => gJ u.2.2 65 i' j) j (v) from by funext j'; by_cases hj : j' = j <;> simp [up3, vp_updL, hj]]
    · rw [if_neg (fun hh => h hh.2), show (fun j' => up3 (gJ u.2.2) 65 i j v 65 i' j') = (fun j => gJ u.2.2 65 i' j) from by funext j'; simp [up3, h]]
      rfl
  | 0 => rfl
  | 1 => rfl
  | 2 => rfl
  | 3 => rfl
  | 4 => rfl
  | 5 => rfl
  | 6 => rfl
  | 7 => rfl
  | 8 => rfl
  | 9 => rfl
  | 10 => rfl
  | 11 => rfl
  | 12 => rfl
  | 13 => rfl
  | 14 => rfl
  | 15 => rfl
  | 16 => rfl
  | 17 => rfl
  | 18 => rfl
  | 19 => rfl
  | 20 => rfl
  | 21 => rfl
  | 22 => rfl
  | 23 => rfl
  | 24 => rfl
  | 25 => rfl
  | 26 => rfl
  | 27 => rfl
  | 28 => rfl
  | 29 => rfl
  | 30 => rfl
  | 31 => rfl
  | 32 => rfl
  | 33 => rfl
  | 34 => rfl
  | 35 => rfl
  | 37 => rfl
  | 38 => rfl
  | 39 => rfl
  | 40 => rfl
  | 41 => rfl
  | 42 => rfl
  | 43 => rfl
  | 44 => rfl
  | 45 => rfl
  | 46 => rfl
  | 47 => rfl
  | _ + 48 => rfl
set_option maxHeartbeats 1000000 in
theorem cu_B66 (env : Ev) (u : St) (i j : Nat) (v : Bool) : ∀ k' i', cn env (wB u 66 i j v) k' i' = if k' = 37 ∧ i' = i then .inl (env.2.1 2, 1800, .inl (upd (fun j => b2i (gB u.2.2 66 i j)) j (b2i (v)))) else cn env u k' i' := by
  intro k' i'
  match k' with
  | 37 =>
    show (.inl (env.2.1 2, 1800, .inl (fun j' => b2i (up3 (gB u.2.2) 66 i j v 66 i' j'))) : va_E) = _
    by_cases h : i' = i
    · subst h
      rw [if_pos ⟨rfl, rfl⟩, show (fun j' => b2i (up3 (gB u.2.2) 66 i' j v 66 i' j')) = upd (fun j => b2i (gB u.2.2 66 i' j)) j (b2i (v)) from by funext j'; by_cases hj : j' = j <;> simp [up3, upd, hj]]
    · rw [if_neg (fun hh => h hh.2), show (fun j' => b2i (up3 (gB u.2.2) 66 i j v 66 i' j')) = (fun j => b2i (gB u.2.2 66 i' j)) from by funext j'; simp [up3, h]]
      rfl
  | 0 => rfl
  | 1 => rfl
  | 2 => rfl
  | 3 => rfl
  | 4 => rfl
  | 5 => rfl
  | 6 => rfl
  | 7 => rfl
  | 8 => rfl
  | 9 => rfl
  | 10 => rfl
  | 11 => rfl
  | 12 => rfl
  | 13 => rfl
  | 14 => rfl
  | 15 => rfl
  | 16 => rfl
  | 17 => rfl
  | 18 => rfl
  | 19 => rfl
  | 20 => rfl
  | 21 => rfl
  | 22 => rfl
  | 23 => rfl
  | 24 => rfl
  | 25 => rfl
  | 26 => rfl
  | 27 => rfl
  | 28 => rfl
  | 29 => rfl
  | 30 => rfl
  | 31 => rfl
  | 32 => rfl
  | 33 => rfl
  | 34 => rfl
  | 35 => rfl
  | 36 => rfl
  | 38 => rfl
  | 39 => rfl
  | 40 => rfl
  | 41 => rfl
  | 42 => rfl
  | 43 => rfl
  | 44 => rfl
  | 45 => rfl
  | 46 => rfl
  | 47 => rfl
  | _ + 48 => rfl
set_option maxHeartbeats 1000000 in
theorem cu_J67 (env : Ev) (u : St) (i j : Nat) (v : Int64) : ∀ k' i', cn env (wJ u 67 i j v) k' i' = if k' = 38 ∧ i' = i then .inl (env.2.1 1, 14400, .inr (.inl (vp_updL (fun j => gJ u.2.2 67 i j) j (v)))) else cn env u k' i' := by
  intro k' i'
  match k' with
  | 38 =>
    show (.inl (env.2.1 1, 14400, .inr (.inl (fun j' => up3 (gJ u.2.2) 67 i j v 67 i' j'))) : va_E) = _
    by_cases h : i' = i
    · subst h
      rw [if_pos ⟨rfl, rfl⟩, show (fun j' => up3 (gJ u.2.2) 67 i' j v 67 i' j') = vp_updL (fun j => gJ u.2.2 67 i' j) j (v) from by funext j'; by_cases hj : j' = j <;> simp [up3, vp_updL, hj]]
    · rw [if_neg (fun hh => h hh.2), show (fun j' => up3 (gJ u.2.2) 67 i j v 67 i' j') = (fun j => gJ u.2.2 67 i' j) from by funext j'; simp [up3, h]]
      rfl
  | 0 => rfl
  | 1 => rfl
  | 2 => rfl
  | 3 => rfl
  | 4 => rfl
  | 5 => rfl
  | 6 => rfl
  | 7 => rfl
  | 8 => rfl
  | 9 => rfl
  | 10 => rfl
  | 11 => rfl
  | 12 => rfl
  | 13 => rfl
  | 14 => rfl
  | 15 => rfl
  | 16 => rfl
  | 17 => rfl
  | 18 => rfl
  | 19 => rfl
  | 20 => rfl
  | 21 => rfl
  | 22 => rfl
  | 23 => rfl
  | 24 => rfl
  | 25 => rfl
  | 26 => rfl
  | 27 => rfl
  | 28 => rfl
  | 29 => rfl
  | 30 => rfl
  | 31 => rfl
  | 32 => rfl
  | 33 => rfl
  | 34 => rfl
  | 35 => rfl
  | 36 => rfl
  | 37 => rfl
  | 39 => rfl
  | 40 => rfl
  | 41 => rfl
  | 42 => rfl
  | 43 => rfl
  | 44 => rfl
  | 45 => rfl
  | 46 => rfl
  | 47 => rfl
  | _ + 48 => rfl
set_option maxHeartbeats 1000000 in
theorem cu_N68 (env : Ev) (u : St) (i j : Nat) (v : Nat) : ∀ k' i', cn env (wN u 68 i j v) k' i' = if k' = 39 ∧ i' = i then .inl (env.2.1 0, 16, .inl (upd (fun j => nI (gN u.2.2 68 i j)) j (nI (v)))) else cn env u k' i' := by
  intro k' i'
  match k' with
  | 39 =>
    show (.inl (env.2.1 0, 16, .inl (fun j' => nI (up3 (gN u.2.2) 68 i j v 68 i' j'))) : va_E) = _
    by_cases h : i' = i
    · subst h
      rw [if_pos ⟨rfl, rfl⟩, show (fun j' => nI (up3 (gN u.2.2) 68 i' j v 68 i' j')) = upd (fun j => nI (gN u.2.2 68 i' j)) j (nI (v)) from by funext j'; by_cases hj : j' = j <;> simp [up3, upd, hj]]
    · rw [if_neg (fun hh => h hh.2), show (fun j' => nI (up3 (gN u.2.2) 68 i j v 68 i' j')) = (fun j => nI (gN u.2.2 68 i' j)) from by funext j'; simp [up3, h]]
      rfl
  | 0 => rfl
  | 1 => rfl
  | 2 => rfl
  | 3 => rfl
  | 4 => rfl
  | 5 => rfl
  | 6 => rfl
  | 7 => rfl
  | 8 => rfl
  | 9 => rfl
  | 10 => rfl
  | 11 => rfl
  | 12 => rfl
  | 13 => rfl
  | 14 => rfl
  | 15 => rfl
  | 16 => rfl
  | 17 => rfl
  | 18 => rfl
  | 19 => rfl
  | 20 => rfl
  | 21 => rfl
  | 22 => rfl
  | 23 => rfl
  | 24 => rfl
  | 25 => rfl
  | 26 => rfl
  | 27 => rfl
  | 28 => rfl
  | 29 => rfl
  | 30 => rfl
  | 31 => rfl
  | 32 => rfl
  | 33 => rfl
  | 34 => rfl
  | 35 => rfl
  | 36 => rfl
  | 37 => rfl
  | 38 => rfl
  | 40 => rfl
  | 41 => rfl
  | 42 => rfl
  | 43 => rfl
  | 44 => rfl
  | 45 => rfl
  | 46 => rfl
  | 47 => rfl
  | _ + 48 => rfl
set_option maxHeartbeats 1000000 in
theorem cu_N69 (env : Ev) (u : St) (i j : Nat) (v : Nat) : ∀ k' i', cn env (wN u 69 i j v) k' i' = if k' = 40 ∧ i' = i then .inl (env.2.1 0, 600, .inl (upd (fun j => nI (gN u.2.2 69 i j)) j (nI (v)))) else cn env u k' i' := by
  intro k' i'
  match k' with
  | 40 =>
    show (.inl (env.2.1 0, 600, .inl (fun j' => nI (up3 (gN u.2.2) 69 i j v 69 i' j'))) : va_E) = _
    by_cases h : i' = i
    · subst h
      rw [if_pos ⟨rfl, rfl⟩, show (fun j' => nI (up3 (gN u.2.2) 69 i' j v 69 i' j')) = upd (fun j => nI (gN u.2.2 69 i' j)) j (nI (v)) from by funext j'; by_cases hj : j' = j <;> simp [up3, upd, hj]]
    · rw [if_neg (fun hh => h hh.2), show (fun j' => nI (up3 (gN u.2.2) 69 i j v 69 i' j')) = (fun j => nI (gN u.2.2 69 i' j)) from by funext j'; simp [up3, h]]
      rfl
  | 0 => rfl
  | 1 => rfl
  | 2 => rfl
  | 3 => rfl
  | 4 => rfl
  | 5 => rfl
  | 6 => rfl
  | 7 => rfl
  | 8 => rfl
  | 9 => rfl
  | 10 => rfl
  | 11 => rfl
  | 12 => rfl
  | 13 => rfl
  | 14 => rfl
  | 15 => rfl
  | 16 => rfl
  | 17 => rfl
  | 18 => rfl
  | 19 => rfl
  | 20 => rfl
  | 21 => rfl
  | 22 => rfl
  | 23 => rfl
  | 24 => rfl
  | 25 => rfl
  | 26 => rfl
  | 27 => rfl
  | 28 => rfl
  | 29 => rfl
  | 30 => rfl
  | 31 => rfl
  | 32 => rfl
  | 33 => rfl
  | 34 => rfl
  | 35 => rfl
  | 36 => rfl
  | 37 => rfl
  | 38 => rfl
  | 39 => rfl
  | 41 => rfl
  | 42 => rfl
  | 43 => rfl
  | 44 => rfl
  | 45 => rfl
  | 46 => rfl
  | 47 => rfl
  | _ + 48 => rfl
set_option maxHeartbeats 1000000 in
theorem cu_N70 (env : Ev) (u : St) (i j : Nat) (v : Nat) : ∀ k' i', cn env (wN u 70 i j v) k' i' = if k' = 41 ∧ i' = i then .inl (env.2.1 0, 4, .inl (upd (fun j => nI (gN u.2.2 70 i j)) j (nI (v)))) else cn env u k' i' := by
  intro k' i'
  match k' with
  | 41 =>
    show (.inl (env.2.1 0, 4, .inl (fun j' => nI (up3 (gN u.2.2) 70 i j v 70 i' j'))) : va_E) = _
    by_cases h : i' = i
    · subst h
      rw [if_pos ⟨rfl, rfl⟩, show (fun j' => nI (up3 (gN u.2.2) 70 i' j v 70 i' j')) = upd (fun j => nI (gN u.2.2 70 i' j)) j (nI (v)) from by funext j'; by_cases hj : j' = j <;> simp [up3, upd, hj]]
    · rw [if_neg (fun hh => h hh.2), show (fun j' => nI (up3 (gN u.2.2) 70 i j v 70 i' j')) = (fun j => nI (gN u.2.2 70 i' j)) from by funext j'; simp [up3, h]]
      rfl
  | 0 => rfl
  | 1 => rfl
  | 2 => rfl
  | 3 => rfl
  | 4 => rfl
  | 5 => rfl
  | 6 => rfl
  | 7 => rfl
  | 8 => rfl
  | 9 => rfl
  | 10 => rfl
  | 11 => rfl
  | 12 => rfl
  | 13 => rfl
  | 14 => rfl
  | 15 => rfl
  | 16 => rfl
  | 17 => rfl
  | 18 => rfl
  | 19 => rfl
  | 20 => rfl
  | 21 => rfl
  | 22 => rfl
  | 23 => rfl
  | 24 => rfl
  | 25 => rfl
  | 26 => rfl
  | 27 => rfl
  | 28 => rfl
  | 29 => rfl
  | 30 => rfl
  | 31 => rfl
  | 32 => rfl
  | 33 => rfl
  | 34 => rfl
  | 35 => rfl
  | 36 => rfl
  | 37 => rfl
  | 38 => rfl
  | 39 => rfl
  | 40 => rfl
  | 42 => rfl
  | 43 => rfl
  | 44 => rfl
  | 45 => rfl
  | 46 => rfl
  | 47 => rfl
  | _ + 48 => rfl
set_option maxHeartbeats 1000000 in
theorem cu_I71 (env : Ev) (u : St) (i j : Nat) (v : Int32) : ∀ k' i', cn env (wI u 71 i j v) k' i' = if k' = 42 ∧ i' = i then .inl (env.2.1 0, 48, .inl (upd (fun j => gI u.2.2 71 i j) j (v))) else cn env u k' i' := by
  intro k' i'
  match k' with
  | 42 =>
    show (.inl (env.2.1 0, 48, .inl (fun j' => up3 (gI u.2.2) 71 i j v 71 i' j')) : va_E) = _
    by_cases h : i' = i
    · subst h
      rw [if_pos ⟨rfl, rfl⟩, show (fun j' => up3 (gI u.2.2) 71 i' j v 71 i' j') = upd (fun j => gI u.2.2 71 i' j) j (v) from by funext j'; by_cases hj : j' = j <;> simp [up3, upd, hj]]
    · rw [if_neg (fun hh => h hh.2), show (fun j' => up3 (gI u.2.2) 71 i j v 71 i' j') = (fun j => gI u.2.2 71 i' j) from by funext j'; simp [up3, h]]
      rfl
  | 0 => rfl
  | 1 => rfl
  | 2 => rfl
  | 3 => rfl
  | 4 => rfl
  | 5 => rfl
  | 6 => rfl
  | 7 => rfl
  | 8 => rfl
  | 9 => rfl
  | 10 => rfl
  | 11 => rfl
  | 12 => rfl
  | 13 => rfl
  | 14 => rfl
  | 15 => rfl
  | 16 => rfl
  | 17 => rfl
  | 18 => rfl
  | 19 => rfl
  | 20 => rfl
  | 21 => rfl
  | 22 => rfl
  | 23 => rfl
  | 24 => rfl
  | 25 => rfl
  | 26 => rfl
  | 27 => rfl
  | 28 => rfl
  | 29 => rfl
  | 30 => rfl
  | 31 => rfl
  | 32 => rfl
  | 33 => rfl
  | 34 => rfl
  | 35 => rfl
  | 36 => rfl
  | 37 => rfl
  | 38 => rfl
  | 39 => rfl
  | 40 => rfl
  | 41 => rfl
  | 43 => rfl
  | 44 => rfl
  | 45 => rfl
  | 46 => rfl
  | 47 => rfl
  | _ + 48 => rfl
set_option maxHeartbeats 1000000 in
theorem cu_N73 (env : Ev) (u : St) (i j : Nat) (v : Nat) : ∀ k' i', cn env (wN u 73 i j v) k' i' = if k' = 44 ∧ i' = i then .inl (env.2.1 0, 2400, .inl (upd (fun j => nI (gN u.2.2 73 i j)) j (nI (v)))) else cn env u k' i' := by
  intro k' i'
  match k' with
  | 44 =>
    show (.inl (env.2.1 0, 2400, .inl (fun j' => nI (up3 (gN u.2.2) 73 i j v 73 i' j'))) : va_E) = _
    by_cases h : i' = i
    · subst h
      rw [if_pos ⟨rfl, rfl⟩, show (fun j' => nI (up3 (gN u.2.2) 73 i' j v 73 i' j')) = upd (fun j => nI (gN u.2.2 73 i' j)) j (nI (v)) from by funext j'; by_cases hj : j' = j <;> simp [up3, upd, hj]]
    · rw [if_neg (fun hh => h hh.2), show (fun j' => nI (up3 (gN u.2.2) 73 i j v 73 i' j')) = (fun j => nI (gN u.2.2 73 i' j)) from by funext j'; simp [up3, h]]
      rfl
  | 0 => rfl
  | 1 => rfl
  | 2 => rfl
  | 3 => rfl
  | 4 => rfl
  | 5 => rfl
  | 6 => rfl
  | 7 => rfl
  | 8 => rfl
  | 9 => rfl
  | 10 => rfl
  | 11 => rfl
  | 12 => rfl
  | 13 => rfl
  | 14 => rfl
  | 15 => rfl
  | 16 => rfl
  | 17 => rfl
  | 18 => rfl
  | 19 => rfl
  | 20 => rfl
  | 21 => rfl
  | 22 => rfl
  | 23 => rfl
  | 24 => rfl
  | 25 => rfl
  | 26 => rfl
  | 27 => rfl
  | 28 => rfl
  | 29 => rfl
  | 30 => rfl
  | 31 => rfl
  | 32 => rfl
  | 33 => rfl
  | 34 => rfl
  | 35 => rfl
  | 36 => rfl
  | 37 => rfl
  | 38 => rfl
  | 39 => rfl
  | 40 => rfl
  | 41 => rfl
  | 42 => rfl
  | 43 => rfl
  | 45 => rfl
  | 46 => rfl
  | 47 => rfl
  | _ + 48 => rfl
set_option maxHeartbeats 1000000 in
theorem cu_N74 (env : Ev) (u : St) (i j : Nat) (v : Nat) : ∀ k' i', cn env (wN u 74 i j v) k' i' = if k' = 45 ∧ i' = i then .inl (env.2.1 0, 2400, .inl (upd (fun j => nI (gN u.2.2 74 i j)) j (nI (v)))) else cn env u k' i' := by
  intro k' i'
  match k' with
  | 45 =>
    show (.inl (env.2.1 0, 2400, .inl (fun j' => nI (up3 (gN u.2.2) 74 i j v 74 i' j'))) : va_E) = _
    by_cases h : i' = i
    · subst h
      rw [if_pos ⟨rfl, rfl⟩, show (fun j' => nI (up3 (gN u.2.2) 74 i' j v 74 i' j')) = upd (fun j => nI (gN u.2.2 74 i' j)) j (nI (v)) from by funext j'; by_cases hj : j' = j <;> simp [up3, upd, hj]]
    · rw [if_neg (fun hh => h hh.2), show (fun j' => nI (up3 (gN u.2.2) 74 i j v 74 i' j')) = (fun j => nI (gN u.2.2 74 i' j)) from by funext j'; simp [up3, h]]
      rfl
  | 0 => rfl
  | 1 => rfl
  | 2 => rfl
  | 3 => rfl
  | 4 => rfl
  | 5 => rfl
  | 6 => rfl
  | 7 => rfl
  | 8 => rfl
  | 9 => rfl
  | 10 => rfl
  | 11 => rfl
  | 12 => rfl
  | 13 => rfl
  | 14 => rfl
  | 15 => rfl
  | 16 => rfl
  | 17 => rfl
  | 18 => rfl
  | 19 => rfl
  | 20 => rfl
  | 21 => rfl
  | 22 => rfl
  | 23 => rfl
  | 24 => rfl
  | 25 => rfl
  | 26 => rfl
  | 27 => rfl
  | 28 => rfl
  | 29 => rfl
  | 30 => rfl
  | 31 => rfl
  | 32 => rfl
  | 33 => rfl
  | 34 => rfl
  | 35 => rfl
  | 36 => rfl
  | 37 => rfl
  | 38 => rfl
  | 39 => rfl
  | 40 => rfl
  | 41 => rfl
  | 42 => rfl
  | 43 => rfl
  | 44 => rfl
  | 46 => rfl
  | 47 => rfl
  | _ + 48 => rfl
set_option maxHeartbeats 1000000 in
theorem cu_N75 (env : Ev) (u : St) (i j : Nat) (v : Nat) : ∀ k' i', cn env (wN u 75 i j v) k' i' = if k' = 46 ∧ i' = i then .inl (env.2.1 0, 2400, .inl (upd (fun j => nI (gN u.2.2 75 i j)) j (nI (v)))) else cn env u k' i' := by
  intro k' i'
  match k' with
  | 46 =>
    show (.inl (env.2.1 0, 2400, .inl (fun j' => nI (up3 (gN u.2.2) 75 i j v 75 i' j'))) : va_E) = _
    by_cases h : i' = i
    · subst h
      rw [if_pos ⟨rfl, rfl⟩, show (fun j' => nI (up3 (gN u.2.2) 75 i' j v 75 i' j')) = upd (fun j => nI (gN u.2.2 75 i' j)) j (nI (v)) from by funext j'; by_cases hj : j' = j <;> simp [up3, upd, hj]]
    · rw [if_neg (fun hh => h hh.2), show (fun j' => nI (up3 (gN u.2.2) 75 i j v 75 i' j')) = (fun j => nI (gN u.2.2 75 i' j)) from by funext j'; simp [up3, h]]
      rfl
  | 0 => rfl
  | 1 => rfl
  | 2 => rfl
  | 3 => rfl
  | 4 => rfl
  | 5 => rfl
  | 6 => rfl
  | 7 => rfl
  | 8 => rfl
  | 9 => rfl
  | 10 => rfl
  | 11 => rfl
  | 12 => rfl
  | 13 => rfl
  | 14 => rfl
  | 15 => rfl
  | 16 => rfl
  | 17 => rfl
  | 18 => rfl
  | 19 => rfl
  | 20 => rfl
  | 21 => rfl
  | 22 => rfl
  | 23 => rfl
  | 24 => rfl
  | 25 => rfl
  | 26 => rfl
  | 27 => rfl
  | 28 => rfl
  | 29 => rfl
  | 30 => rfl
  | 31 => rfl
  | 32 => rfl
  | 33 => rfl
  | 34 => rfl
  | 35 => rfl
  | 36 => rfl
  | 37 => rfl
  | 38 => rfl
  | 39 => rfl
  | 40 => rfl
  | 41 => rfl
  | 42 => rfl
  | 43 => rfl
  | 44 => rfl
  | 45 => rfl
  | 47 => rfl
  | _ + 48 => rfl
set_option maxHeartbeats 1000000 in
theorem cu_N76 (env : Ev) (u : St) (i j : Nat) (v : Nat) : ∀ k' i', cn env (wN u 76 i j v) k' i' = if k' = 47 ∧ i' = i then .inl (env.2.1 0, 2400, .inl (upd (fun j => nI (gN u.2.2 76 i j)) j (nI (v)))) else cn env u k' i' := by
  intro k' i'
  match k' with
  | 47 =>
    show (.inl (env.2.1 0, 2400, .inl (fun j' => nI (up3 (gN u.2.2) 76 i j v 76 i' j'))) : va_E) = _
    by_cases h : i' = i
    · subst h
      rw [if_pos ⟨rfl, rfl⟩, show (fun j' => nI (up3 (gN u.2.2) 76 i' j v 76 i' j')) = upd (fun j => nI (gN u.2.2 76 i' j)) j (nI (v)) from by funext j'; by_cases hj : j' = j <;> simp [up3, upd, hj]]
    · rw [if_neg (fun hh => h hh.2), show (fun j' => nI (up3 (gN u.2.2) 76 i j v 76 i' j')) = (fun j => nI (gN u.2.2 76 i' j)) from by funext j'; simp [up3, h]]
      rfl
  | 0 => rfl
  | 1 => rfl
  | 2 => rfl
  | 3 => rfl
  | 4 => rfl
  | 5 => rfl
  | 6 => rfl
  | 7 => rfl
  | 8 => rfl
  | 9 => rfl
  | 10 => rfl
  | 11 => rfl
  | 12 => rfl
  | 13 => rfl
  | 14 => rfl
  | 15 => rfl
  | 16 => rfl
  | 17 => rfl
  | 18 => rfl
  | 19 => rfl
  | 20 => rfl
  | 21 => rfl
  | 22 => rfl
  | 23 => rfl
  | 24 => rfl
  | 25 => rfl
  | 26 => rfl
  | 27 => rfl
  | 28 => rfl
  | 29 => rfl
  | 30 => rfl
  | 31 => rfl
  | 32 => rfl
  | 33 => rfl
  | 34 => rfl
  | 35 => rfl
  | 36 => rfl
  | 37 => rfl
  | 38 => rfl
  | 39 => rfl
  | 40 => rfl
  | 41 => rfl
  | 42 => rfl
  | 43 => rfl
  | 44 => rfl
  | 45 => rfl
  | 46 => rfl
  | _ + 48 => rfl

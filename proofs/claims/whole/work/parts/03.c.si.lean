/-- the class's structure: which keys live, what the lists hold, sizes -/
def SI (env : Ev) (u : St) : Prop :=
  ((0, 0) ∈ sK u ∧ (1, 0) ∈ sK u ∧ (∀ i, i < 7 → (2, i) ∈ sK u) ∧ (∀ i, i < 4 → (5, i) ∈ sK u ∧ (6, i) ∈ sK u ∧ (7, i) ∈ sK u)) ∧
  ((∀ k, k < gN u.2.1 3 0 0 → (4, k) ∈ sK u) ∧ (∀ k, (4, k) ∈ sK u → k < gN u.2.1 3 0 0 ∧ gN u.2.1 25 k 0 < 4) ∧ gN u.2.1 3 0 0 ≤ 12) ∧
  ((∀ t, t < gN u.2.1 3 1 0 → (8, t) ∈ sK u) ∧ (∀ t, (8, t) ∈ sK u → t < gN u.2.1 3 1 0 ∧ gN u.2.1 26 t 0 < 4 ∧ (9, t) ∈ sK u ∧ (10, t) ∈ sK u ∧ (11, t) ∈ sK u ∧ (12, t) ∈ sK u ∧ (13, t) ∈ sK u) ∧ gN u.2.1 3 1 0 ≤ 150) ∧
  (∀ q, (14, q) ∈ sK u → gN u.2.1 22 q 0 < 4 ∧ gN u.2.1 23 q 0 < 4 ∧ gN u.2.1 24 q 0 < gN u.2.1 3 1 0) ∧
  ((∀ j, j < gN u.2.1 3 0 0 → sE u (sM u 2 0) j = some (sA u 4 j)) ∧ (∀ j, j < gN u.2.1 3 1 0 → sE u (sM u 2 1) j = some (sA u 8 j)) ∧ (∀ j, j < gN u.2.1 3 2 0 → sE u (sM u 2 2) j = some (sA u 14 (gN u.2.1 31 0 j)) ∧ (14, gN u.2.1 31 0 j) ∈ sK u) ∧ (∀ s, s < 4 → ∀ j, j < gN u.2.1 3 (3 + s) 0 → sE u (sM u 2 (3 + s)) j = some (sA u 8 (gN u.2.1 30 s j)) ∧ gN u.2.1 30 s j < gN u.2.1 3 1 0)) ∧
  ((∀ i, i < 7 → gN u.2.1 3 i 0 ≤ sM u 0 (sM u 2 i) ∧ sM u 0 (sM u 2 i) ≤ 4096 ∧ (0 < sM u 0 (sM u 2 i) → (3, sM u 2 i) ∈ sK u) ∧ (sM u 0 (sM u 2 i) = 0 → sA u 3 (sM u 2 i) = env.2.2.1)) ∧ (∀ i i', i < 7 → i' < 7 → 0 < sM u 0 (sM u 2 i) → sM u 2 i = sM u 2 i' → i = i') ∧ (∀ z, (3, z) ∈ sK u → z < sM u 3 0) ∧ (∀ i, (2, i) ∈ sK u → i < 7) ∧ (∀ i, i < 7 → sM u 2 i < sM u 3 0)) ∧
  gN u.2.1 0 0 0 ≤ 4
section SIp
variable {env : Ev} {u : St} {i k t q j s : Nat}
theorem SI.k0 (h : SI env u) : (0, 0) ∈ sK u := h.1.1
theorem SI.k1 (h : SI env u) : (1, 0) ∈ sK u := h.1.2.1
theorem SI.k2 (h : SI env u) (hi : i < 7) : (2, i) ∈ sK u := h.1.2.2.1 i hi
theorem SI.k5 (h : SI env u) (hi : i < 4) : (5, i) ∈ sK u := (h.1.2.2.2 i hi).1
theorem SI.k6 (h : SI env u) (hi : i < 4) : (6, i) ∈ sK u := (h.1.2.2.2 i hi).2.1
theorem SI.k7 (h : SI env u) (hi : i < 4) : (7, i) ∈ sK u := (h.1.2.2.2 i hi).2.2
theorem SI.k4 (h : SI env u) (hi : k < gN u.2.1 3 0 0) : (4, k) ∈ sK u := h.2.1.1 k hi
theorem SI.th (h : SI env u) (hi : (4, k) ∈ sK u) : k < gN u.2.1 3 0 0 ∧ gN u.2.1 25 k 0 < 4 := h.2.1.2.1 k hi
theorem SI.nth (h : SI env u) : gN u.2.1 3 0 0 ≤ 12 := h.2.1.2.2
theorem SI.k8 (h : SI env u) (hi : t < gN u.2.1 3 1 0) : (8, t) ∈ sK u := h.2.2.1.1 t hi
theorem SI.tx (h : SI env u) (hi : (8, t) ∈ sK u) : t < gN u.2.1 3 1 0 ∧ gN u.2.1 26 t 0 < 4 := ⟨(h.2.2.1.2.1 t hi).1, (h.2.2.1.2.1 t hi).2.1⟩
theorem SI.ntx (h : SI env u) : gN u.2.1 3 1 0 ≤ 150 := h.2.2.1.2.2
theorem SI.k9 (h : SI env u) (hi : (8, t) ∈ sK u) : (9, t) ∈ sK u := (h.2.2.1.2.1 t hi).2.2.1
theorem SI.k10 (h : SI env u) (hi : (8, t) ∈ sK u) : (10, t) ∈ sK u := (h.2.2.1.2.1 t hi).2.2.2.1
theorem SI.k11 (h : SI env u) (hi : (8, t) ∈ sK u) : (11, t) ∈ sK u := (h.2.2.1.2.1 t hi).2.2.2.2.1
theorem SI.k12 (h : SI env u) (hi : (8, t) ∈ sK u) : (12, t) ∈ sK u := (h.2.2.1.2.1 t hi).2.2.2.2.2.1
theorem SI.k13 (h : SI env u) (hi : (8, t) ∈ sK u) : (13, t) ∈ sK u := (h.2.2.1.2.1 t hi).2.2.2.2.2.2
theorem SI.ms (h : SI env u) (hi : (14, q) ∈ sK u) : gN u.2.1 22 q 0 < 4 ∧ gN u.2.1 23 q 0 < 4 ∧ gN u.2.1 24 q 0 < gN u.2.1 3 1 0 := h.2.2.2.1 q hi
theorem SI.e0 (h : SI env u) (hi : j < gN u.2.1 3 0 0) : sE u (sM u 2 0) j = some (sA u 4 j) := h.2.2.2.2.1.1 j hi
theorem SI.e1 (h : SI env u) (hi : j < gN u.2.1 3 1 0) : sE u (sM u 2 1) j = some (sA u 8 j) := h.2.2.2.2.1.2.1 j hi
theorem SI.e2 (h : SI env u) (hi : j < gN u.2.1 3 2 0) : sE u (sM u 2 2) j = some (sA u 14 (gN u.2.1 31 0 j)) := (h.2.2.2.2.1.2.2.1 j hi).1
theorem SI.k14 (h : SI env u) (hi : j < gN u.2.1 3 2 0) : (14, gN u.2.1 31 0 j) ∈ sK u := (h.2.2.2.2.1.2.2.1 j hi).2
theorem SI.e3 (h : SI env u) (hs : s < 4) (hi : j < gN u.2.1 3 (3 + s) 0) : sE u (sM u 2 (3 + s)) j = some (sA u 8 (gN u.2.1 30 s j)) := (h.2.2.2.2.1.2.2.2 s hs j hi).1
theorem SI.o3 (h : SI env u) (hs : s < 4) (hi : j < gN u.2.1 3 (3 + s) 0) : gN u.2.1 30 s j < gN u.2.1 3 1 0 := (h.2.2.2.2.1.2.2.2 s hs j hi).2
theorem SI.cap (h : SI env u) (hi : i < 7) : gN u.2.1 3 i 0 ≤ sM u 0 (sM u 2 i) ∧ sM u 0 (sM u 2 i) ≤ 4096 ∧ (0 < sM u 0 (sM u 2 i) → (3, sM u 2 i) ∈ sK u) ∧ (sM u 0 (sM u 2 i) = 0 → sA u 3 (sM u 2 i) = env.2.2.1) := h.2.2.2.2.2.1.1 i hi
theorem SI.apart (h : SI env u) (hi : i < 7) (hk : k < 7) (h0 : 0 < sM u 0 (sM u 2 i)) (e : sM u 2 i = sM u 2 k) : i = k := h.2.2.2.2.2.1.2.1 i k hi hk h0 e
theorem SI.fresh (h : SI env u) (hi : (3, i) ∈ sK u) : i < sM u 3 0 := h.2.2.2.2.2.1.2.2.1 i hi
theorem SI.l7 (h : SI env u) (hi : (2, i) ∈ sK u) : i < 7 := h.2.2.2.2.2.1.2.2.2.1 i hi
theorem SI.idlt (h : SI env u) (hi : i < 7) : sM u 2 i < sM u 3 0 := h.2.2.2.2.2.1.2.2.2.2 i hi
theorem SI.nst (h : SI env u) : gN u.2.1 0 0 0 ≤ 4 := h.2.2.2.2.2.2
end SIp

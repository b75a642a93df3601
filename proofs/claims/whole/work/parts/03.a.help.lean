theorem b2i_f {e : Bool} (h : b2i e = 0) : e = false := by cases e with | false => rfl | true => exact absurd h (by decide)
theorem b2i_t {e : Bool} (h : ¬ b2i e = 0) : e = true := by cases e with | true => rfl | false => exact absurd rfl h
theorem b2i_nar (e : Bool) : narrow .boolean (.int (b2i e)) = .int (b2i e) := by cases e <;> rfl
theorem b2i_vnar (e : Bool) : vp_nar .boolean (b2i e) = b2i e := by cases e <;> rfl
theorem b2i_fit (e : Bool) : fits .boolean (.int (b2i e)) = true := by cases e <;> rfl
theorem b2i_c0 {e : Bool} (h : e = false) : nI 0 = b2i e := by subst h; rfl
theorem b2i_c1 {e : Bool} (h : e = true) : nI 1 = b2i e := by subst h; rfl
theorem b2i_1 : b2i true = nI 1 := rfl
theorem b2i_0 : b2i false = nI 0 := rfl
/-- an int as an index below n -/
def ix (v : Int32) (n : Nat) : Option Nat := if 0 ≤ v.toInt ∧ v.toInt < n then some v.toInt.toNat else none
theorem ix_lt {v : Int32} {n : Nat} (h : v < 0) : ix v n = none := by
  have h2 : v.toInt < 0 := Int32.lt_iff_toInt_lt.mp h
  simp [ix]; omega
theorem ix_ge {v : Int32} {n : Nat} (hn : n < 2 ^ 31) (h : nI n ≤ v) : ix v n = none := by
  have h2 : (nI n).toInt ≤ v.toInt := Int32.le_iff_toInt_le.mp h
  rw [nI_toInt hn] at h2
  simp [ix]; omega
theorem ix_nI {j n : Nat} (hn : n < 2 ^ 31) (h : j < n) : ix (nI j) n = some j := by
  simp [ix, nI_toInt (show j < 2 ^ 31 by omega)]; omega
theorem ix_in {v : Int32} {n : Nat} (hn : n < 2 ^ 31) (h0 : ¬ v < 0) (h1 : ¬ nI n ≤ v) : ∃ j : Nat, j < n ∧ v = nI j := by
  rcases pk_ix v hn with h | h | h
  · exact absurd h h0
  · exact absurd h h1
  · exact h
theorem ix_some {v : Int32} {n j : Nat} (hn : n < 2 ^ 31) (h : ix v n = some j) : j < n ∧ v = nI j := by
  rcases pk_ix v hn with h1 | h1 | ⟨q, h1, h2⟩
  · rw [ix_lt h1] at h; cases h
  · rw [ix_ge hn h1] at h; cases h
  · subst h2; rw [ix_nI hn h1] at h; cases h; exact ⟨h1, rfl⟩
theorem sw_out {v : Int32} {n : Nat} {x : Int} (hx : x = (n : Int) - 1) (hn : n < 2 ^ 31) (h : ix v n = none) : v.toInt < 0 ∨ x < v.toInt := by
  subst hx
  unfold ix at h
  split at h
  · cases h
  · omega
/-! loops of one kind: some, all, how many -/
def anyN (q : Nat → Bool) (n : Nat) : Bool := (List.range n).any q
theorem anyN_t {q : Nat → Bool} {n i : Nat} (hi : i < n) (h : q i = true) : anyN q n = true := by
  simp only [anyN, List.any_eq_true, List.mem_range]; exact ⟨i, hi, h⟩
theorem anyN_f {q : Nat → Bool} {n : Nat} (h : ∀ j, j < n → q j = false) : anyN q n = false := by
  cases he : anyN q n with
  | false => rfl
  | true =>
    simp only [anyN, List.any_eq_true, List.mem_range] at he
    obtain ⟨j, hj, h2⟩ := he
    rw [h j hj] at h2; cases h2
theorem anyN_s (q : Nat → Bool) (n : Nat) : anyN q (n + 1) = (anyN q n || q n) := by simp [anyN, List.range_succ, List.any_append]
theorem anyN_0 (q : Nat → Bool) : anyN q 0 = false := rfl
def allN (q : Nat → Bool) (n : Nat) : Bool := (List.range n).all q
theorem allN_f {q : Nat → Bool} {n i : Nat} (hi : i < n) (h : q i = false) : allN q n = false := by
  cases he : allN q n with
  | false => rfl
  | true =>
    simp only [allN, List.all_eq_true, List.mem_range] at he
    rw [he i hi] at h; cases h
theorem allN_t {q : Nat → Bool} {n : Nat} (h : ∀ j, j < n → q j = true) : allN q n = true := by
  simp only [allN, List.all_eq_true, List.mem_range]; exact h
theorem allN_s (q : Nat → Bool) (n : Nat) : allN q (n + 1) = (allN q n && q n) := by simp [allN, List.range_succ, List.all_append]
theorem allN_0 (q : Nat → Bool) : allN q 0 = true := rfl
def cntN (q : Nat → Bool) : Nat → Nat
  | 0 => 0
  | n + 1 => cntN q n + (if q n then 1 else 0)
theorem cntN_s (q : Nat → Bool) (n : Nat) : cntN q (n + 1) = cntN q n + (if q n then 1 else 0) := rfl
theorem cntN_le (q : Nat → Bool) (n : Nat) : cntN q n ≤ n := by
  induction n with
  | zero => exact Nat.le_refl 0
  | succ n ih => rw [cntN_s]; split <;> omega
def sumL (q : Nat → Int64) : Nat → Int64
  | 0 => 0
  | n + 1 => sumL q n + q n
theorem sumL_s (q : Nat → Int64) (n : Nat) : sumL q (n + 1) = sumL q n + q n := rfl
theorem sumL_0 (q : Nat → Int64) : sumL q 0 = 0 := rfl
theorem lt_st {i : Nat} {q : Nat → Prop} (h : ∀ a, a < i → q a) (hi : q i) : ∀ a, a < i + 1 → q a := fun a ha => by
  rcases Nat.lt_or_ge a i with h1 | h1
  · exact h a h1
  · rw [show a = i by omega]; exact hi
/-- the bound under which ints are naturals -/
def Nb (g : Lg) : Prop := ∀ f i j, gN g f i j < 1073741824
theorem Nb.uN {g : Lg} (h : Nb g) {f i j v : Nat} (hv : v < 1073741824) : Nb (uN g f i j v) := by
  intro f' i' j'
  show up3 (gN g) f i j v f' i' j' < _
  unfold up3
  split
  · dsimp only; split
    · exact hv
    · exact h _ _ _
  · exact h _ _ _
theorem Nb.uB {g : Lg} (h : Nb g) {f i j : Nat} {v : Bool} : Nb (uB g f i j v) := h
theorem Nb.uI {g : Lg} (h : Nb g) {f i j : Nat} {v : Int32} : Nb (uI g f i j v) := h
theorem Nb.uJ {g : Lg} (h : Nb g) {f i j : Nat} {v : Int64} : Nb (uJ g f i j v) := h
theorem sub_nI {a b : Nat} (h : b ≤ a) : nI a - nI b = nI (a - b) := pk_sub h
section RV
variable {p : Program} {l : Launch} {e : Env} {R : Room} {s : State} {m : MethodId} {args : Array Value} {below : List Frame} {meth : Method} {c : Code} {H : Heap} {locs : List Loc} {cells slots : Nat} {Q : State → Prop} {cc : ByteArray} {nL : Nat} {own : String} {pc : Nat} {ls : Array Slot} {rest : List Value} {env : Ev} {s0 : Nat} {X : va_W} {u : St} {k i a : Nat}
theorem w_ifeq_b {q : Bool} (hx : p.tables.exec = Jvm.exec) (hb : c.code = cc) {off : Int} {tgt : Nat} (hdg : decode cc pc = .ok (.ifCond .eq off, 3)) (ht : (pc : Int) + off = (tgt : Int)) (kt : q = false → W p l e R s m args below meth c H locs cells slots Q (F0 m tgt ls (rest))) (kf : q = true → W p l e R s m args below meth c H locs cells slots Q (F0 m (pc + 3) ls (rest))) : W p l e R s m args below meth c H locs cells slots Q (F0 m pc ls (.int (b2i q) :: rest)) :=
  lv_if_eq hx hb hdg ht (fun c1 => kt (b2i_f c1)) (fun c1 => kf (b2i_t c1))
theorem w_ifne_b {q : Bool} (hx : p.tables.exec = Jvm.exec) (hb : c.code = cc) {off : Int} {tgt : Nat} (hdg : decode cc pc = .ok (.ifCond .ne off, 3)) (ht : (pc : Int) + off = (tgt : Int)) (kt : q = true → W p l e R s m args below meth c H locs cells slots Q (F0 m tgt ls (rest))) (kf : q = false → W p l e R s m args below meth c H locs cells slots Q (F0 m (pc + 3) ls (rest))) : W p l e R s m args below meth c H locs cells slots Q (F0 m pc ls (.int (b2i q) :: rest)) :=
  lv_if_ne hx hb hdg ht (fun c1 => kt (b2i_t c1)) (fun c1 => kf (b2i_f c1))
theorem w_ifeq_n {q : Nat} (hq : q < 2 ^ 31) (hx : p.tables.exec = Jvm.exec) (hb : c.code = cc) {off : Int} {tgt : Nat} (hdg : decode cc pc = .ok (.ifCond .eq off, 3)) (ht : (pc : Int) + off = (tgt : Int)) (kt : q = 0 → W p l e R s m args below meth c H locs cells slots Q (F0 m tgt ls (rest))) (kf : ¬ q = 0 → W p l e R s m args below meth c H locs cells slots Q (F0 m (pc + 3) ls (rest))) : W p l e R s m args below meth c H locs cells slots Q (F0 m pc ls (.int (nI q) :: rest)) :=
  lv_if_eq hx hb hdg ht (fun c1 => kt ((nI_eq hq (by decide)).mp (c1.trans nI_0.symm))) (fun c1 => kf (fun z => c1 (by rw [z]; exact nI_0)))
theorem w_ifne_n {q : Nat} (hq : q < 2 ^ 31) (hx : p.tables.exec = Jvm.exec) (hb : c.code = cc) {off : Int} {tgt : Nat} (hdg : decode cc pc = .ok (.ifCond .ne off, 3)) (ht : (pc : Int) + off = (tgt : Int)) (kt : ¬ q = 0 → W p l e R s m args below meth c H locs cells slots Q (F0 m tgt ls (rest))) (kf : q = 0 → W p l e R s m args below meth c H locs cells slots Q (F0 m (pc + 3) ls (rest))) : W p l e R s m args below meth c H locs cells slots Q (F0 m pc ls (.int (nI q) :: rest)) :=
  lv_if_ne hx hb hdg ht (fun c1 => kt (fun z => c1 (by rw [z]; exact nI_0))) (fun c1 => kf ((nI_eq hq (by decide)).mp (c1.trans nI_0.symm)))
theorem w_ifle_n {q : Nat} (hq : q < 2 ^ 31) (hx : p.tables.exec = Jvm.exec) (hb : c.code = cc) {off : Int} {tgt : Nat} (hdg : decode cc pc = .ok (.ifCond .le off, 3)) (ht : (pc : Int) + off = (tgt : Int)) (kt : q = 0 → W p l e R s m args below meth c H locs cells slots Q (F0 m tgt ls (rest))) (kf : 0 < q → W p l e R s m args below meth c H locs cells slots Q (F0 m (pc + 3) ls (rest))) : W p l e R s m args below meth c H locs cells slots Q (F0 m pc ls (.int (nI q) :: rest)) :=
  lv_if_le hx hb hdg ht (fun c1 => kt (by rcases Nat.eq_zero_or_pos q with z | z; exact z; exact absurd c1 (nI_nle z hq))) (fun c1 => kf (by rcases Nat.eq_zero_or_pos q with z | z; exact absurd (by rw [z]; exact nI_0 ▸ Int32.le_refl _) c1; exact z))
theorem w_ifgt_n {q : Nat} (hq : q < 2 ^ 31) (hx : p.tables.exec = Jvm.exec) (hb : c.code = cc) {off : Int} {tgt : Nat} (hdg : decode cc pc = .ok (.ifCond .gt off, 3)) (ht : (pc : Int) + off = (tgt : Int)) (kt : 0 < q → W p l e R s m args below meth c H locs cells slots Q (F0 m tgt ls (rest))) (kf : q = 0 → W p l e R s m args below meth c H locs cells slots Q (F0 m (pc + 3) ls (rest))) : W p l e R s m args below meth c H locs cells slots Q (F0 m pc ls (.int (nI q) :: rest)) :=
  lv_if_gt hx hb hdg ht (fun c1 => kt (by rcases Nat.eq_zero_or_pos q with z | z; (exfalso; rw [z, nI_0] at c1; exact absurd c1 (by decide)); exact z)) (fun c1 => kf (by rcases Nat.eq_zero_or_pos q with z | z; exact z; exact absurd (by rw [← nI_0]; exact nI_lt z hq) c1))
theorem w_iflt_n {q : Nat} (hq : q < 2 ^ 31) (hx : p.tables.exec = Jvm.exec) (hb : c.code = cc) {off : Int} {tgt : Nat} (hdg : decode cc pc = .ok (.ifCond .lt off, 3)) (ht : (pc : Int) + off = (tgt : Int)) (kf : W p l e R s m args below meth c H locs cells slots Q (F0 m (pc + 3) ls (rest))) : W p l e R s m args below meth c H locs cells slots Q (F0 m pc ls (.int (nI q) :: rest)) :=
  lv_if_lt hx hb hdg ht (fun c1 => absurd c1 (nI_pos hq)) (fun _ => kf)
theorem w_ifge_n {q : Nat} (hq : q < 2 ^ 31) (hx : p.tables.exec = Jvm.exec) (hb : c.code = cc) {off : Int} {tgt : Nat} (hdg : decode cc pc = .ok (.ifCond .ge off, 3)) (ht : (pc : Int) + off = (tgt : Int)) (kt : W p l e R s m args below meth c H locs cells slots Q (F0 m tgt ls (rest))) : W p l e R s m args below meth c H locs cells slots Q (F0 m pc ls (.int (nI q) :: rest)) :=
  lv_if_ge hx hb hdg ht (fun _ => kt) (fun c1 => absurd (nI_pos' hq) c1)
theorem w_iceq_n {q r : Nat} (hq : q < 2 ^ 31) (hr : r < 2 ^ 31) (hx : p.tables.exec = Jvm.exec) (hb : c.code = cc) {off : Int} {tgt : Nat} (hdg : decode cc pc = .ok (.if_icmp .eq off, 3)) (ht : (pc : Int) + off = (tgt : Int)) (kt : q = r → W p l e R s m args below meth c H locs cells slots Q (F0 m tgt ls (rest))) (kf : ¬ q = r → W p l e R s m args below meth c H locs cells slots Q (F0 m (pc + 3) ls (rest))) : W p l e R s m args below meth c H locs cells slots Q (F0 m pc ls (.int (nI r) :: .int (nI q) :: rest)) :=
  lv_icmp_eq hx hb hdg ht (fun c1 => kt ((nI_eq hq hr).mp c1)) (fun c1 => kf (fun z => c1 (by rw [z])))
theorem w_icne_n {q r : Nat} (hq : q < 2 ^ 31) (hr : r < 2 ^ 31) (hx : p.tables.exec = Jvm.exec) (hb : c.code = cc) {off : Int} {tgt : Nat} (hdg : decode cc pc = .ok (.if_icmp .ne off, 3)) (ht : (pc : Int) + off = (tgt : Int)) (kt : ¬ q = r → W p l e R s m args below meth c H locs cells slots Q (F0 m tgt ls (rest))) (kf : q = r → W p l e R s m args below meth c H locs cells slots Q (F0 m (pc + 3) ls (rest))) : W p l e R s m args below meth c H locs cells slots Q (F0 m pc ls (.int (nI r) :: .int (nI q) :: rest)) :=
  lv_icmp_ne hx hb hdg ht (fun c1 => kt (fun z => c1 (by rw [z]))) (fun c1 => kf ((nI_eq hq hr).mp c1))
theorem w_iclt_n {q r : Nat} (hq : q < 2 ^ 31) (hr : r < 2 ^ 31) (hx : p.tables.exec = Jvm.exec) (hb : c.code = cc) {off : Int} {tgt : Nat} (hdg : decode cc pc = .ok (.if_icmp .lt off, 3)) (ht : (pc : Int) + off = (tgt : Int)) (kt : q < r → W p l e R s m args below meth c H locs cells slots Q (F0 m tgt ls (rest))) (kf : r ≤ q → W p l e R s m args below meth c H locs cells slots Q (F0 m (pc + 3) ls (rest))) : W p l e R s m args below meth c H locs cells slots Q (F0 m pc ls (.int (nI r) :: .int (nI q) :: rest)) :=
  lv_icmp_lt hx hb hdg ht (fun c1 => kt ((nI_ltI hq hr).mp c1)) (fun c1 => kf (Nat.not_lt.mp (fun z => c1 ((nI_ltI hq hr).mpr z))))
theorem w_icge_n {q r : Nat} (hq : q < 2 ^ 31) (hr : r < 2 ^ 31) (hx : p.tables.exec = Jvm.exec) (hb : c.code = cc) {off : Int} {tgt : Nat} (hdg : decode cc pc = .ok (.if_icmp .ge off, 3)) (ht : (pc : Int) + off = (tgt : Int)) (kt : r ≤ q → W p l e R s m args below meth c H locs cells slots Q (F0 m tgt ls (rest))) (kf : q < r → W p l e R s m args below meth c H locs cells slots Q (F0 m (pc + 3) ls (rest))) : W p l e R s m args below meth c H locs cells slots Q (F0 m pc ls (.int (nI r) :: .int (nI q) :: rest)) :=
  lv_icmp_ge hx hb hdg ht (fun c1 => kt ((nI_leI hr hq).mp c1)) (fun c1 => kf (Nat.not_le.mp (fun z => c1 ((nI_leI hr hq).mpr z))))
theorem w_icgt_n {q r : Nat} (hq : q < 2 ^ 31) (hr : r < 2 ^ 31) (hx : p.tables.exec = Jvm.exec) (hb : c.code = cc) {off : Int} {tgt : Nat} (hdg : decode cc pc = .ok (.if_icmp .gt off, 3)) (ht : (pc : Int) + off = (tgt : Int)) (kt : r < q → W p l e R s m args below meth c H locs cells slots Q (F0 m tgt ls (rest))) (kf : q ≤ r → W p l e R s m args below meth c H locs cells slots Q (F0 m (pc + 3) ls (rest))) : W p l e R s m args below meth c H locs cells slots Q (F0 m pc ls (.int (nI r) :: .int (nI q) :: rest)) :=
  lv_icmp_gt hx hb hdg ht (fun c1 => kt ((nI_ltI hr hq).mp c1)) (fun c1 => kf (Nat.not_lt.mp (fun z => c1 ((nI_ltI hr hq).mpr z))))
theorem w_icle_n {q r : Nat} (hq : q < 2 ^ 31) (hr : r < 2 ^ 31) (hx : p.tables.exec = Jvm.exec) (hb : c.code = cc) {off : Int} {tgt : Nat} (hdg : decode cc pc = .ok (.if_icmp .le off, 3)) (ht : (pc : Int) + off = (tgt : Int)) (kt : q ≤ r → W p l e R s m args below meth c H locs cells slots Q (F0 m tgt ls (rest))) (kf : r < q → W p l e R s m args below meth c H locs cells slots Q (F0 m (pc + 3) ls (rest))) : W p l e R s m args below meth c H locs cells slots Q (F0 m pc ls (.int (nI r) :: .int (nI q) :: rest)) :=
  lv_icmp_le hx hb hdg ht (fun c1 => kt ((nI_leI hq hr).mp c1)) (fun c1 => kf (Nat.not_le.mp (fun z => c1 ((nI_leI hq hr).mpr z))))
theorem w_iadd_n {q r : Nat} (hx : p.tables.exec = Jvm.exec) (hb : c.code = cc) (hdg : decode cc pc = .ok (.iadd, 1)) (kk : W p l e R s m args below meth c H locs cells slots Q (F0 m (pc + 1) ls (.int (nI (q + r)) :: rest))) : W p l e R s m args below meth c H locs cells slots Q (F0 m pc ls (.int (nI r) :: .int (nI q) :: rest)) :=
  lv_iadd hx hb hdg (by rw [nI_add]; exact kk)
theorem w_imul_n {q r : Nat} (hx : p.tables.exec = Jvm.exec) (hb : c.code = cc) (hdg : decode cc pc = .ok (.imul, 1)) (kk : W p l e R s m args below meth c H locs cells slots Q (F0 m (pc + 1) ls (.int (nI (q * r)) :: rest))) : W p l e R s m args below meth c H locs cells slots Q (F0 m pc ls (.int (nI r) :: .int (nI q) :: rest)) :=
  lv_imul hx hb hdg (by rw [pk_mul]; exact kk)
theorem w_isub_n {q r : Nat} (hle : r ≤ q) (hx : p.tables.exec = Jvm.exec) (hb : c.code = cc) (hdg : decode cc pc = .ok (.isub, 1)) (kk : W p l e R s m args below meth c H locs cells slots Q (F0 m (pc + 1) ls (.int (nI (q - r)) :: rest))) : W p l e R s m args below meth c H locs cells slots Q (F0 m pc ls (.int (nI r) :: .int (nI q) :: rest)) :=
  lv_isub hx hb hdg (by rw [pk_sub hle]; exact kk)
theorem w_cast (hF : CallFix p m c cc nL s args TT own) (hB : Bd env s0 X u s H locs) {C nm : String} {index : Nat} (hl : Cond.classLink own index nm ∈ TT) (hc : Cond.castable C nm ∈ TT) (hr : ∃ cell : Cell, H[a]? = some cell ∧ cell.vm.isStatics = false ∧ s.vm.findClass C = some cell.cls) (hdg : decode cc pc = .ok (.checkcast index, 3)) (kk : W p l e R s m args below meth c H locs cells slots Q (F0 m (pc + 3) ls (.ref a :: rest))) : W p l e R s m args below meth c H locs cells slots Q (F0 m pc ls (.ref a :: rest)) :=
  va_castY hF.1 hF.2.1 hF.2.2.2.1 (hF.2.2.2.2 _ hl) (va_Nw.of rfl (hF.2.2.2.2 _ hc)) hr hdg kk
theorem w_acmp_eq (hx : p.tables.exec = Jvm.exec) (hb : c.code = cc) {x y : Nat} {off : Int} {tgt : Nat} (hdg : decode cc pc = .ok (.if_acmp .eq off, 3)) (ht : (pc : Int) + off = (tgt : Int)) (kt : x = y → W p l e R s m args below meth c H locs cells slots Q (F0 m tgt ls (rest))) (kf : ¬ x = y → W p l e R s m args below meth c H locs cells slots Q (F0 m (pc + 3) ls (rest))) : W p l e R s m args below meth c H locs cells slots Q (F0 m pc ls (.ref y :: .ref x :: rest)) :=
  lv_acmp_eq (rx := some x) (ry := some y) hx hb hdg ht (fun c1 => kt (Option.some.inj c1)) (fun c1 => kf (fun z => c1 (by rw [z])))
theorem w_acmp_ne (hx : p.tables.exec = Jvm.exec) (hb : c.code = cc) {x y : Nat} {off : Int} {tgt : Nat} (hdg : decode cc pc = .ok (.if_acmp .ne off, 3)) (ht : (pc : Int) + off = (tgt : Int)) (kt : ¬ x = y → W p l e R s m args below meth c H locs cells slots Q (F0 m tgt ls (rest))) (kf : x = y → W p l e R s m args below meth c H locs cells slots Q (F0 m (pc + 3) ls (rest))) : W p l e R s m args below meth c H locs cells slots Q (F0 m pc ls (.ref y :: .ref x :: rest)) :=
  lv_acmp_ne (rx := some x) (ry := some y) hx hb hdg ht (fun c1 => kt (fun z => c1 (by rw [z]))) (fun c1 => kf (Option.some.inj c1))
end RV

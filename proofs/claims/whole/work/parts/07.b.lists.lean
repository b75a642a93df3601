def Obj (u : St) (y : Nat) : Prop := ∃ k' i', (k' = 4 ∨ k' = 8 ∨ k' = 14) ∧ At u k' i' y
theorem Bd.obj {p : Program} {s : State} {m : MethodId} {args : Array Value} {c : Code} {H : Heap} {locs : List Loc} {cc : ByteArray} {nL : Nat} {own : String} {env : Ev} {s0 : Nat} {X : va_W} {u : St} {y : Nat} (hB : Bd env s0 X u s H locs) (hF : CallFix p m c cc nL s args TT own) (h : Obj u y) : va_Any "java/lang/Object" s H y := by
  obtain ⟨k', i', hk, ha⟩ := h
  rcases hk with rfl | rfl | rfl
  · exact hB.any hF ha (cn_4 env u i') rfl tw_4_113
  · exact hB.any hF ha (cn_8 env u i') rfl tw_4_114
  · exact hB.any hF ha (cn_14 env u i') rfl tw_4_115
/-- a longer row: the elements of the row z at its beginning -/
def cpO (u : St) (z q n : Nat) : St := vF (newO u q n) (sM u 3 0) (va_cpy (sE u z) (fun _ => none) 0 0 (min (sM u 0 z) n))
def gCap (u : St) (i : Nat) : Nat := if sM u 0 (sM u 2 i) = 0 then 10 else sM u 0 (sM u 2 i) + max 1 (sM u 0 (sM u 2 i) / 2)
def gr (u : St) (i q : Nat) : St := if sM u 0 (sM u 2 i) = 0 then vM (newO u q 10) 2 i (sM u 3 0) else vM (cpO u (sM u 2 i) q (gCap u i)) 2 i (sM u 3 0)
def adO (u : St) (i b : Nat) : St := vN (vF u (sM u 2 i) (va_up (sE u (sM u 2 i)) (gN u.2.1 3 i 0) (some b))) 3 i 0 (gN u.2.1 3 i 0 + 1)
def adF (u : St) (i b q : Nat) : St := if gN u.2.1 3 i 0 = sM u 0 (sM u 2 i) then adO (gr u i q) i b else adO u i b
theorem w_ishr1 {p : Program} {l : Launch} {e : Env} {R : Room} {s : State} {m : MethodId} {args : Array Value} {below : List Frame} {meth : Method} {c : Code} {H : Heap} {locs : List Loc} {cells slots : Nat} {Q : State → Prop} {cc : ByteArray} {pc : Nat} {ls : Array Slot} {rest : List Value} {a : Nat} (ha : a < 2 ^ 31) (hx : p.tables.exec = Jvm.exec) (hb : c.code = cc) (hdg : decode cc pc = .ok (.ishr, 1)) (kk : W p l e R s m args below meth c H locs cells slots Q (F0 m (pc + 1) ls (.int (nI (a / 2)) :: rest))) : W p l e R s m args below meth c H locs cells slots Q (F0 m pc ls (.int (nI 1) :: .int (nI a) :: rest)) := by
  refine lv_ishr hx hb hdg ?_
  rw [pk_shrN ha _ 1 (by decide)]
  exact kk
theorem Bd.recvA {s : State} {H : Heap} {locs : List Loc} {env : Ev} {s0 : Nat} {X : va_W} {u : St} {z a : Nat} (hB : Bd env s0 X u s H locs) (ha : At u 3 z a) : ∃ cell : Cell, H[a]? = some cell ∧ cell.vm.isStatics = false ∧ s.vm.findClass "[Ljava/lang/Object;" = some cell.cls := by
  obtain ⟨n, hn⟩ := pool_at (env := env) (X := X) ha
  rw [cn_3] at hn
  exact ⟨_, hB.1.1 n _ hn, rfl, va_nmO (hB.1.2.1.2 4 _ rfl).2 rfl⟩
section NO
variable {env : Ev} {u : St} {q n z k i a y : Nat}
theorem newO_M (hz : z ≠ sM u 3 0) : sM (newO u q n) 0 z = sM u 0 z := by simp [newO, sM, up2]; intro h; exact absurd h hz
theorem newO_Mz : sM (newO u q n) 0 (sM u 3 0) = n := by simp [newO, sM, up2]
theorem newO_E (hz : z ≠ sM u 3 0) : sE (newO u q n) z = sE u z := by simp [newO, sE, up1]; intro h; exact absurd h hz
theorem newO_Ez : sE (newO u q n) (sM u 3 0) = fun _ => none := by simp [newO, sE, up1]
theorem At.newz : At (newO u q n) 3 (sM u 3 0) q := ⟨List.mem_append_right (sK u) (List.mem_singleton.mpr rfl), by simp [newO, sA, up2]⟩
theorem At.newO (h3 : (3, sM u 3 0) ∉ sK u) (h2 : ∀ i, (2, i) ∈ sK u → sM u 2 i ≠ sM u 3 0) (h : At u k i a) : At (newO u q n) k i a := ⟨List.mem_append_left _ h.1, (cn_newO ((fun _ => 0, fun _ _ => 0), fun _ => 0, 0, 0) u q n h3 h2 k i h.1).1.trans h.2⟩
theorem Obj.newO (h3 : (3, sM u 3 0) ∉ sK u) (h2 : ∀ i, (2, i) ∈ sK u → sM u 2 i ≠ sM u 3 0) (h : Obj u y) : Obj (newO u q n) y := by
  obtain ⟨k', i', hk, ha⟩ := h
  exact ⟨k', i', hk, ha.newO h3 h2⟩
theorem ne_ctr (h3 : (3, sM u 3 0) ∉ sK u) (h : At u 3 z a) : z ≠ sM u 3 0 := fun e => h3 (e ▸ h.1)
end NO

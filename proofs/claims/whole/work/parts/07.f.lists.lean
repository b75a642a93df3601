theorem up1_up1 {α : Type} (F : Nat → α) (i : Nat) (v w : α) : up1 (up1 F i v) i w = up1 F i w := by
  funext j; unfold up1; split <;> rfl
def rmG (u : St) (i j : Nat) : Nat → Option Nat := if j < gN u.2.1 3 i 0 - 1 then va_cpy (sE u (sM u 2 i)) (sE u (sM u 2 i)) (j + 1) j (gN u.2.1 3 i 0 - 1 - j) else sE u (sM u 2 i)
def rmF (u : St) (i j : Nat) : St := vF (vN (vM u 1 i (sM u 1 i + 1)) 3 i 0 (gN u.2.1 3 i 0 - 1)) (sM u 2 i) (va_up (rmG u i j) (gN u.2.1 3 i 0 - 1) none)
theorem vF_vF (u : St) (i f n : Nat) (g h : Nat → Option Nat) : vF (vN (vF u i g) 3 f 0 n) i h = vF (vN u 3 f 0 n) i h := by
  show (((sK u, sA u, sM u, up1 (up1 (sE u) i g) i h), _) : St) = _
  rw [up1_up1]; rfl
theorem sE_vF (u : St) (i : Nat) (g : Nat → Option Nat) : sE (vF u i g) i = g := by simp [vF, sE, up1]
theorem rm_lo {u : St} {i j x : Nat} (h : x < j) (hj : j < gN u.2.1 3 i 0) : sE (rmF u i j) (sM u 2 i) x = sE u (sM u 2 i) x := by
  rw [rmF, sE_vF]
  unfold va_up rmG
  rw [if_neg (by omega)]
  split
  · simp [va_cpy]; omega
  · rfl
theorem rm_hi {u : St} {i j x : Nat} (h : j ≤ x) (hj : x < gN u.2.1 3 i 0 - 1) : sE (rmF u i j) (sM u 2 i) x = sE u (sM u 2 i) (x + 1) := by
  rw [rmF, sE_vF]
  unfold va_up rmG
  rw [if_neg (by omega), if_pos (by omega)]
  simp [va_cpy]
  rw [if_pos (by omega)]
  congr 1; omega
theorem rm_E {u : St} {i j z : Nat} (h : z ≠ sM u 2 i) : sE (rmF u i j) z = sE u z := by
  show up1 (sE u) (sM u 2 i) _ z = _
  unfold up1; rw [if_neg h]
section LQ
variable {p : Program} {l : Launch} {e : Env} {R : Room} {s : State} {m : MethodId} {args : Array Value} {below : List Frame} {meth : Method} {c : Code} {H : Heap} {locs : List Loc} {cells slots : Nat} {Q : State → Prop} {cc : ByteArray} {pc : Nat} {ls : Array Slot} {rest : List Value}
theorem lv_aloadQ (hx : p.tables.exec = Jvm.exec) (hb : c.code = cc) {k : Fin 4} {i : Nat} {r : Option Nat} (hdg : decode cc pc = .ok (.aload_n k, 1)) (hi : (k : Nat) = i) (hl : ls[i]? = some (.val (va_rf r))) (kk : W p l e R s m args below meth c H locs cells slots Q (F0 m (pc + 1) ls (va_rf r :: rest))) : W p l e R s m args below meth c H locs cells slots Q (F0 m pc ls rest) := by
  cases r with
  | none => exact lv_aload_nN hx hb hdg hi hl kk
  | some a => exact lv_aload_n hx hb hdg hi hl kk
theorem lv_astoreQ (hx : p.tables.exec = Jvm.exec) (hb : c.code = cc) {k : Fin 4} {i nL : Nat} {r : Option Nat} {lv lv' : List (Nat × Value)} (hdg : decode cc pc = .ok (.astore_n k, 1)) (hi : (k : Nat) = i) (h : lv_has ls nL lv) (hn : i < nL) (hl : (i, va_rf r) :: lv.filter (fun q => !(q.1 == i) && !(q.1 + 1 == i && q.2.category == 2)) = lv') (kk : ∀ ls' : Array Slot, lv_has ls' nL lv' → W p l e R s m args below meth c H locs cells slots Q (F0 m (pc + 1) ls' rest)) : W p l e R s m args below meth c H locs cells slots Q (F0 m pc ls (va_rf r :: rest)) := by
  cases r with
  | none => exact lv_astore_nN hx hb hdg hi h hn hl kk
  | some a => exact lv_astore_n hx hb hdg hi h hn hl kk
end LQ

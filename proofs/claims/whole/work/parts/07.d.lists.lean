section GR
variable {env : Ev} {u : St} {q n z k i j a b y : Nat}
theorem gr_2u (u : St) (i q : Nat) : (gr u i q).2 = u.2 := by unfold gr; split <;> rfl
theorem gr_2 : sM (gr u i q) 2 i = sM u 3 0 := by unfold gr; split <;> simp [vM, sM, up2]
theorem gr_K : sK (gr u i q) = sK u ++ [(3, sM u 3 0)] := by unfold gr; split <;> rfl
theorem gr_A (h : ¬ (k = 3 ∧ j = sM u 3 0)) : sA (gr u i q) k j = sA u k j := by
  have e : sA (gr u i q) = sA (newO u q 0) := by unfold gr; split <;> rfl
  rw [e]
  show up2 (sA u) 3 (sM u 3 0) q k j = _
  unfold up2
  by_cases z : k = 3
  · subst z; simp; intro hz; exact absurd ⟨rfl, hz⟩ h
  · rw [if_neg z]
theorem gr_Az : sA (gr u i q) 3 (sM u 3 0) = q := by
  have e : sA (gr u i q) = sA (newO u q 0) := by unfold gr; split <;> rfl
  rw [e]; exact (At.newz (u := u) (q := q) (n := 0)).2
theorem At_gr : At (gr u i q) 3 (sM (gr u i q) 2 i) q := by
  rw [gr_2]
  exact ⟨by rw [gr_K]; exact List.mem_append_right _ (List.mem_singleton.mpr rfl), gr_Az⟩
theorem At_grk (h3 : (3, sM u 3 0) ∉ sK u) (h : At u k j a) : At (gr u i q) k j a :=
  ⟨by rw [gr_K]; exact List.mem_append_left _ h.1, by rw [gr_A (fun z => h3 (by have := h.1; rw [z.1, z.2] at this; exact this))]; exact h.2⟩
theorem Obj_gr (h3 : (3, sM u 3 0) ∉ sK u) (h : Obj u y) : Obj (gr u i q) y := by
  obtain ⟨k', i', hk, ha⟩ := h
  exact ⟨k', i', hk, At_grk h3 ha⟩
theorem gr_cap : sM (gr u i q) 0 (sM (gr u i q) 2 i) = gCap u i := by
  rw [gr_2]
  unfold gr gCap
  split
  · simp [vM, newO, sM, up2]
  · simp [vM, cpO, vF, newO, sM, up2, gCap]
theorem gr_M (h : z ≠ sM u 3 0) : sM (gr u i q) 0 z = sM u 0 z := by
  unfold gr
  split
  · show sM (newO u q 10) 0 z = _; exact newO_M h
  · show sM (newO u q (gCap u i)) 0 z = _; exact newO_M h
theorem gr_M2 (h : j ≠ i) : sM (gr u i q) 2 j = sM u 2 j := by unfold gr; split <;> (simp [vM, sM, up2, h]; rfl)
theorem gr_M3 : sM (gr u i q) 3 0 = sM u 3 0 + 1 := by unfold gr; split <;> simp [vM, cpO, vF, newO, sM, up2]
theorem gr_E (hz : sM u 2 i ≠ sM u 3 0) (hj : j < sM u 0 (sM u 2 i)) : sE (gr u i q) (sM (gr u i q) 2 i) j = sE u (sM u 2 i) j := by
  rw [gr_2]
  unfold gr
  rw [if_neg (by omega)]
  have hg : sM u 0 (sM u 2 i) ≤ gCap u i := by unfold gCap; split <;> omega
  show up1 (sE (newO u q (gCap u i))) (sM u 3 0) _ (sM u 3 0) j = _
  simp [up1, va_cpy]
  omega
theorem gr_Eo (h : z ≠ sM u 3 0) : sE (gr u i q) z = sE u z := by
  unfold gr
  split
  · exact newO_E (q := q) (n := 10) h
  · show up1 (sE (newO u q (gCap u i))) (sM u 3 0) _ z = _
    simp [up1, h, newO_E h]
end GR
section LW3
variable {p : Program} {l : Launch} {e : Env} {R : Room} {s : State} {m : MethodId} {args : Array Value} {below : List Frame} {meth : Method} {c : Code} {H : Heap} {locs : List Loc} {cells slots : Nat} {Q : State → Prop} {cc : ByteArray} {nL : Nat} {own : String} {pc : Nat} {ls : Array Slot} {rest : List Value} {env : Ev} {s0 : Nat} {X : va_W} {u : St} {k i a b : Nat}
theorem w_putEQ (hF : CallFix p m c cc nL s args TT own) (hB : Bd env s0 X u s H locs) {z index : Nat} (ha : At u 2 i a) (hb : sA u 3 z = b) (hl : Cond.fieldLink own index "java/util/ArrayList" "elementData" "[Ljava/lang/Object;" ∈ TT) (hdg : decode cc pc = .ok (.putfield index, 3)) (kk : ∀ H locs, Bd env s0 X (vM u 2 i z) s H locs → W p l e R s m args below meth c H locs cells slots Q (F0 m (pc + 3) ls rest)) : W p l e R s m args below meth c H locs cells slots Q (F0 m pc ls (.ref b :: .ref a :: rest)) := by
  subst hb
  exact w_putED hF hB ha hl hdg kk
end LW3

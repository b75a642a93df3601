set_option maxHeartbeats 4000000 in
set_option maxRecDepth 100000 in
theorem c_J8_newLength_cabcc (l : Launch) (env : Ev) (s0 : Nat) (X : va_W) (u : St) (no : Nat) (na : Nat) (nb : Nat) (h1 : no < 100000) (h2 : na < 100000) (h3 : nb < 100000) (h4 : 0 < na) : Met l yJ8_newLength_cabcc [Cond.code yJ8_newLength_cabcc cJ8_newLength_cabcc 4 (some .int)] { frames := 1, cells := 0, slots := 0, locals := 20 } (va_Pc [.int (nI (no)), .int (nI (na)), .int (nI (nb))] (Pr env s0 X u)) (va_Qi (fun r u' => u = u' ∧ r = nI (no + max na nb)) (Po env s0 X) (fun q => s0 ≤ q)) 0 0 (fun q => s0 ≤ q) := by
  refine Met.ofW (cc := cJ8_newLength_cabcc) (maxL := 4) (ret := (some .int)) (by decide) rfl ?_
  intro p e s m args below meth c s₁ B hml hv
  obtain ⟨rfl, hv⟩ := hv
  have hx := B.exec
  have hb := B.bytes
  have hr := B.returns
  have hts : ∀ ww ∈ TT, ww.before #[.int (nI (no)), .int (nI (na)), .int (nI (nb))] s = true := fun ww hw => hv.2.1 ww hw _
  have hown : s.vm.findClass RJ8 = some m.cls := findClass_of_methodNamed B.named
  have hlocks := B.notSynchronized
  have hF : CallFix p m c cJ8_newLength_cabcc 4 s #[.int (nI (no)), .int (nI (na)), .int (nI (nb))] TT RJ8 := ⟨hx, hb, hml, hown, hts⟩
  have hB := Bd.entry hv
  have hl := lv_entry ([.int (nI (no)), .int (nI (na)), .int (nI (nb))]) (n := 4) (Nat.le_of_ble_eq_true rfl)
  rw [lg_entry_eq]
  generalize (lg_sl ([.int (nI (no)), .int (nI (na)), .int (nI (nb))]) ++ List.replicate (4 - (lg_sl ([.int (nI (no)), .int (nI (na)), .int (nI (nb))])).length) Slot.unset).toArray = ls at hl ⊢
  have hl : lv_has ls 4 [(0, .int (nI (no))), (1, .int (nI (na))), (2, .int (nI (nb)))] := hl
  refine lv_iload_n hx hb dJ8_newLength_cabcc_0 rfl (lv_at hl 0 rfl) ?_
  refine lv_iload_n hx hb dJ8_newLength_cabcc_1 rfl (lv_at hl 1 rfl) ?_
  refine lv_iload_n hx hb dJ8_newLength_cabcc_2 rfl (lv_at hl 2 rfl) ?_
  refine w_mmax hF hB hl.1 (by omega) (by omega) tw_1_160 tw_1_161 tw_1_10 tw_1_162 (Nat.le_of_ble_eq_true rfl) (Nat.le_of_ble_eq_true rfl) (Nat.zero_le _) (Nat.zero_le _) dJ8_newLength_cabcc_3 ?_
  refine w_iadd_n hx hb dJ8_newLength_cabcc_6 ?_
  refine lv_istore_n (lv' := [(3, .int (nI (no + (max na nb)))), (0, .int (nI (no))), (1, .int (nI (na))), (2, .int (nI (nb)))]) hx hb dJ8_newLength_cabcc_7 rfl hl (by decide) rfl (fun ls hl => ?_)
  refine lv_iconst (v := nI 0) hx hb dJ8_newLength_cabcc_8 (by decide) ?_
  refine lv_iload_n hx hb dJ8_newLength_cabcc_9 rfl (lv_at hl 0 rfl) ?_
  refine w_icge_n (tgt := 21) (by decide) (by omega) hx hb dJ8_newLength_cabcc_10 (by decide) (fun c_1 => ?_) (fun c_1 => ?_)
  · omega
  · refine lv_iload_n hx hb dJ8_newLength_cabcc_13 rfl (lv_at hl 0 rfl) ?_
    refine lv_ldc (v := nI 2147483639) hx hb hown (hts _ tw_1_163) dJ8_newLength_cabcc_14 ?_
    refine w_icgt_n (tgt := 21) (by omega) (by decide) hx hb dJ8_newLength_cabcc_16 (by decide) (fun c_2 => ?_) (fun c_2 => ?_)
    · omega
    · refine lv_iload_n hx hb dJ8_newLength_cabcc_19 rfl (lv_at hl 0 rfl) ?_
      exact w_iret (v := nI (no + (max na nb))) hF hr hlocks hB (⟨rfl, rfl⟩) dJ8_newLength_cabcc_20
set_option maxHeartbeats 4000000 in
set_option maxRecDepth 100000 in
theorem c_J7_copyOf_6403c (l : Launch) (env : Ev) (s0 : Nat) (X : va_W) (u : St) (a0 : Nat) (z : Nat) (ha0 : At u 3 (z) a0) (n : Nat) (h3 : (3, sM u 3 0) ∉ sK u) (h2 : ∀ i, (2, i) ∈ sK u → sM u 2 i ≠ sM u 3 0) (hn : n ≤ 4096) (hcz : sM u 0 z ≤ 4096) (hel : ∀ j y, j < min (sM u 0 z) n → sE u z j = some y → Obj u y) (zz : Nat) (hzz : n ≤ zz) : Met l yJ7_copyOf_6403c [Cond.code yJ7_copyOf_6403c cJ7_copyOf_6403c 4 (some (.array (.object "java/lang/Object")))] { frames := 1, cells := 1, slots := zz, locals := 40 } (va_Pc [.ref (a0), .int (nI (n)), .ref (env.2.2.2)] (Pr env s0 X u)) (va_Qq (fun r u' => ∃ q, r = some q ∧ u' = cpO u z q n) (Po env s0 X) (fun q => s0 ≤ q)) 1 zz (fun q => s0 ≤ q) := by
  refine Met.ofW (cc := cJ7_copyOf_6403c) (maxL := 4) (ret := (some (.array (.object "java/lang/Object")))) (by decide) rfl ?_
  intro p e s m args below meth c s₁ B hml hv
  obtain ⟨rfl, hv⟩ := hv
  have hx := B.exec
  have hb := B.bytes
  have hr := B.returns
  have hts : ∀ ww ∈ TT, ww.before #[.ref (a0), .int (nI (n)), .ref (env.2.2.2)] s = true := fun ww hw => hv.2.1 ww hw _
  have hown : s.vm.findClass RJ7 = some m.cls := findClass_of_methodNamed B.named
  have hlocks := B.notSynchronized
  have hF : CallFix p m c cJ7_copyOf_6403c 4 s #[.ref (a0), .int (nI (n)), .ref (env.2.2.2)] TT RJ7 := ⟨hx, hb, hml, hown, hts⟩
  have hB := Bd.entry hv
  have hl := lv_entry ([.ref (a0), .int (nI (n)), .ref (env.2.2.2)]) (n := 4) (Nat.le_of_ble_eq_true rfl)
  rw [lg_entry_eq]
  generalize (lg_sl ([.ref (a0), .int (nI (n)), .ref (env.2.2.2)]) ++ List.replicate (4 - (lg_sl ([.ref (a0), .int (nI (n)), .ref (env.2.2.2)])).length) Slot.unset).toArray = ls at hl ⊢
  have hl : lv_has ls 4 [(0, .ref (a0)), (1, .int (nI (n))), (2, .ref (env.2.2.2))] := hl
  refine lv_aload_n hx hb dJ7_copyOf_6403c_0 rfl (lv_at hl 2 rfl) ?_
  refine va_ldcM hx hb hown (hts _ tw_1_184) hB.2.2.2.1.2.2.1 dJ7_copyOf_6403c_1 ?_
  refine w_acmp_ne (tgt := 13) hx hb dJ7_copyOf_6403c_3 (by decide) (fun c => absurd rfl c) (fun _ => ?_)
  refine lv_iload_n hx hb dJ7_copyOf_6403c_6 rfl (lv_at hl 1 rfl) ?_
  refine w_newO hF hB tw_1_186 tw_1_185 (by omega) h3 h2 (Nat.le_of_ble_eq_true rfl) (by show 0 + n ≤ zz; omega) dJ7_copyOf_6403c_7 (fun q H hB => ?_)
  refine lv_goto (tgt := 24) hx hb dJ7_copyOf_6403c_10 (by decide) ?_
  refine lv_astore_n (lv' := [(3, .ref (q)), (0, .ref (a0)), (1, .int (nI (n))), (2, .ref (env.2.2.2))]) hx hb dJ7_copyOf_6403c_24 rfl hl (by decide) rfl (fun ls hl => ?_)
  refine lv_aload_n hx hb dJ7_copyOf_6403c_25 rfl (lv_at hl 1 rfl) ?_
  refine lv_iconst (v := nI 0) hx hb dJ7_copyOf_6403c_26 (by decide) ?_
  refine lv_aload_n hx hb dJ7_copyOf_6403c_27 rfl (lv_at hl 0 rfl) ?_
  refine lv_iconst (v := nI 0) hx hb dJ7_copyOf_6403c_28 (by decide) ?_
  refine lv_aload_n hx hb dJ7_copyOf_6403c_29 rfl (lv_at hl 1 rfl) ?_
  refine w_alO (n := sM u 0 z) hF hB (At.newO h3 h2 ha0) (newO_M (ne_ctr h3 ha0)) dJ7_copyOf_6403c_30 ?_
  refine lv_iload_n hx hb dJ7_copyOf_6403c_31 rfl (lv_at hl 2 rfl) ?_
  refine w_mmin hF hB hl.1 (by omega) (by omega) tw_1_187 tw_1_188 tw_1_10 tw_1_189 (Nat.le_of_ble_eq_true rfl) (Nat.le_of_ble_eq_true rfl) (Nat.le_of_ble_eq_true rfl) (by show 0 + n ≤ zz; omega) dJ7_copyOf_6403c_32 ?_
  refine w_acpO hF hB hl.1 (At.newO h3 h2 ha0) At.newz (by rw [newO_M (ne_ctr h3 ha0)]; omega) (by rw [newO_Mz]; omega) (by rw [newO_M (ne_ctr h3 ha0)]; omega) (by rw [newO_Mz]; omega) (fun j y hj hy => hB.obj hF ((hel j y hj (by rw [newO_E (ne_ctr h3 ha0), Nat.zero_add] at hy; exact hy)).newO h3 h2)) tw_1_190 tw_1_192 tw_1_191 tw_1_11 (Nat.le_of_ble_eq_true rfl) (Nat.le_of_ble_eq_true rfl) dJ7_copyOf_6403c_35 (fun H locs hB => ?_)
  rw [newO_E (ne_ctr h3 ha0), newO_Ez] at hB
  replace hB : Bd env s0 X (cpO u z q n) s H locs := hB
  refine lv_aload_n hx hb dJ7_copyOf_6403c_38 rfl (lv_at hl 0 rfl) ?_
  refine W.widen (k := 1) (n := zz) (Nat.le_of_ble_eq_true rfl) (by show 0 + n ≤ zz; omega) ?_
  exact w_aret (r := some (q)) rfl hF hr (by first | exact Or.inl ⟨_, rfl⟩ | exact Or.inr ⟨_, rfl⟩) hlocks hB (⟨q, rfl, rfl⟩) dJ7_copyOf_6403c_39
set_option maxHeartbeats 4000000 in
set_option maxRecDepth 100000 in
theorem c_J7_copyOf_1904c (l : Launch) (env : Ev) (s0 : Nat) (X : va_W) (u : St) (a0 : Nat) (z : Nat) (ha0 : At u 3 (z) a0) (n : Nat) (h3 : (3, sM u 3 0) ∉ sK u) (h2 : ∀ i, (2, i) ∈ sK u → sM u 2 i ≠ sM u 3 0) (hn : n ≤ 4096) (hcz : sM u 0 z ≤ 4096) (hel : ∀ j y, j < min (sM u 0 z) n → sE u z j = some y → Obj u y) (zz : Nat) (hzz : n ≤ zz) : Met l yJ7_copyOf_1904c [Cond.code yJ7_copyOf_1904c cJ7_copyOf_1904c 2 (some (.array (.object "java/lang/Object")))] { frames := 2, cells := 1, slots := zz, locals := 63 } (va_Pc [.ref (a0), .int (nI (n))] (Pr env s0 X u)) (va_Qq (fun r u' => ∃ q, r = some q ∧ u' = cpO u z q n) (Po env s0 X) (fun q => s0 ≤ q)) 1 zz (fun q => s0 ≤ q) := by
  refine Met.ofW (cc := cJ7_copyOf_1904c) (maxL := 2) (ret := (some (.array (.object "java/lang/Object")))) (by decide) rfl ?_
  intro p e s m args below meth c s₁ B hml hv
  obtain ⟨rfl, hv⟩ := hv
  have hx := B.exec
  have hb := B.bytes
  have hr := B.returns
  have hts : ∀ ww ∈ TT, ww.before #[.ref (a0), .int (nI (n))] s = true := fun ww hw => hv.2.1 ww hw _
  have hown : s.vm.findClass RJ7 = some m.cls := findClass_of_methodNamed B.named
  have hlocks := B.notSynchronized
  have hF : CallFix p m c cJ7_copyOf_1904c 2 s #[.ref (a0), .int (nI (n))] TT RJ7 := ⟨hx, hb, hml, hown, hts⟩
  have hB := Bd.entry hv
  have hl := lv_entry ([.ref (a0), .int (nI (n))]) (n := 2) (Nat.le_of_ble_eq_true rfl)
  rw [lg_entry_eq]
  generalize (lg_sl ([.ref (a0), .int (nI (n))]) ++ List.replicate (2 - (lg_sl ([.ref (a0), .int (nI (n))])).length) Slot.unset).toArray = ls at hl ⊢
  have hl : lv_has ls 2 [(0, .ref (a0)), (1, .int (nI (n)))] := hl
  refine lv_aload_n hx hb dJ7_copyOf_1904c_0 rfl (lv_at hl 0 rfl) ?_
  refine lv_iload_n hx hb dJ7_copyOf_1904c_1 rfl (lv_at hl 1 rfl) ?_
  refine lv_aload_n hx hb dJ7_copyOf_1904c_2 rfl (lv_at hl 0 rfl) ?_
  refine va_getC hx hb (hml.trans hl.1.symm) hown (hts _ tw_1_170) (va_Dc.use hB.2.2.2.1.2.2.2) (hts _ tw_4_108) (hts _ tw_1_171) (hts _ tw_1_180) hB.2.2.2.1.2.2.1 (hB.recvA ha0) (Nat.le_of_ble_eq_true rfl) (Nat.le_of_ble_eq_true rfl) dJ7_copyOf_1904c_3 ?_
  refine w_cq (r_S (As := [.ref (a0), .int (nI (n)), .ref (env.2.2.2)]) (rest := []) hF hB (c_J7_copyOf_6403c l env s0 X u (a0) (z) (ha0) (n) h3 h2 hn hcz hel zz hzz) cs_J7_copyOf_6403c tw_1_181 ⟨rfl, rfl, Nat.le_of_ble_eq_true rfl, Nat.le_of_ble_eq_true rfl⟩ rfl hl.1 rfl (lv_room (by decide)) dJ7_copyOf_1904c_6 ⟨Nat.le_of_ble_eq_true rfl, (by show 0 + zz ≤ zz; omega)⟩) hB (fun r_1 u_3 H locs hq_2 hB => ?_)
  obtain ⟨q, rfl, rfl⟩ := hq_2
  show W p l e _ s m _ below meth c H locs _ _ _ (F0 m _ ls [.ref (q)])
  refine W.widen (k := 1) (n := zz) (Nat.le_of_ble_eq_true rfl) (by show 0 + zz ≤ zz; omega) ?_
  exact w_aret (r := some (q)) rfl hF hr (by first | exact Or.inl ⟨_, rfl⟩ | exact Or.inr ⟨_, rfl⟩) hlocks hB (⟨q, rfl, rfl⟩) dJ7_copyOf_1904c_9

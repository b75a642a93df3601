set_option maxHeartbeats 4000000 in
set_option maxRecDepth 100000 in
theorem c_X5_message (l : Launch) (env : Ev) (s0 : Nat) (X : va_W) (u : St) (a0 : Nat) (_xa0 : Nat) (ha0 : At u 20 (0) a0) (v1 : Int32) (v2 : Int32) (hM : MI u) (hV : MV u.2.2) (hNm : Nb u.2.2) : Met l yX5_message [Cond.code yX5_message cX5_message 3 (some .int)] { frames := 2, cells := 0, slots := 0, locals := 46 } (va_Pc [.ref (a0), .int (v1), .int (v2)] (Pr env s0 X u)) (va_Qi (fun r u' => u = u' ∧ r = mmessage u.2.2 v1 v2) (Po env s0 X) (fun q => s0 ≤ q)) 0 0 (fun q => s0 ≤ q) := by
  refine Met.ofW (cc := cX5_message) (maxL := 3) (ret := (some .int)) (by decide) rfl ?_
  intro p e s m args below meth c s₁ B hml hv
  obtain ⟨rfl, hv⟩ := hv
  have hx := B.exec
  have hb := B.bytes
  have hr := B.returns
  have hts : ∀ ww ∈ TT, ww.before #[.ref (a0), .int (v1), .int (v2)] s = true := fun ww hw => hv.2.1 ww hw _
  have hown : s.vm.findClass RX5 = some m.cls := findClass_of_methodNamed B.named
  have hlocks := B.notSynchronized
  have hF : CallFix p m c cX5_message 3 s #[.ref (a0), .int (v1), .int (v2)] TT RX5 := ⟨hx, hb, hml, hown, hts⟩
  have hB := Bd.entry hv
  have hl := lv_entry ([.ref (a0), .int (v1), .int (v2)]) (n := 3) (Nat.le_of_ble_eq_true rfl)
  rw [lg_entry_eq]
  generalize (lg_sl ([.ref (a0), .int (v1), .int (v2)]) ++ List.replicate (3 - (lg_sl ([.ref (a0), .int (v1), .int (v2)])).length) Slot.unset).toArray = ls at hl ⊢
  have hl : lv_has ls 3 [(0, .ref (a0)), (1, .int (v1)), (2, .int (v2))] := hl
  have hn1 := hV.nth
  have hn2 := hV.ntx
  have hn3 := hV.nst
  have hn4 := hV.nms
  refine lv_aload_n hx hb dX5_message_0 rfl (lv_at hl 0 rfl) ?_
  refine lv_iload_n hx hb dX5_message_1 rfl (lv_at hl 1 rfl) ?_
  refine w_ci (r_V (As := [.int (v1)]) (rest := []) hF hB (c_X5_isMessage l env s0 X u (a0) (0) (ha0) (v1) hM hNm) cv_X5_isMessage tw_4_46 ⟨rfl, rfl, by decide, by decide⟩ (hB.recv ha0 (cn_20 env u (0)) rfl) rfl hl.1 rfl (lv_room (by decide)) dX5_message_2 ⟨Nat.le_of_ble_eq_true rfl, Nat.le_of_ble_eq_true rfl⟩) hB (fun r_1 u_3 H locs hq_2 hB => ?_)
  obtain ⟨rfl, rfl⟩ := hq_2
  refine w_ifne_b (tgt := 10) hx hb dX5_message_5 (by decide) (fun c_4 => ?_) (fun c_4 => ?_)
  · obtain ⟨j_5, hj_6⟩ := Option.isSome_iff_exists.mp c_4
    obtain ⟨hjl_7, rfl⟩ := ix_some (by have := hNm 72 0 0; omega) hj_6
    refine lv_iload_n hx hb dX5_message_10 rfl (lv_at hl 2 rfl) ?_
    rcases hx_hj_8 : ix v2 5 with _ | j_9
    · refine lv_tableOut (tgt := 86) hx hb dX5_message_11 (sw_out (n := 5) rfl (by decide) hx_hj_8) (by decide) ?_
      refine lv_iconst (v := -1) hx hb dX5_message_86 (by decide) ?_
      exact w_iret (v := -1) hF hr hlocks hB (⟨rfl, by first | (simp [mmessage, hj_6, hx_hj_8]; done) | (simp [mmessage, hj_6, hx_hj_8]; rfl) | (simp [mmessage, hj_6, hx_hj_8]; exact b2i_c0 (by simp [hj_6, hx_hj_8] <;> omega)) | (simp [mmessage, hj_6, hx_hj_8]; exact b2i_c1 (by simp [hj_6, hx_hj_8] <;> omega))⟩) dX5_message_87
    · obtain ⟨hjl_10, rfl⟩ := ix_some (by decide) hx_hj_8
      by_cases c_11 : j_9 = 0
      · refine lv_tableIn (tgt := 44) hx hb dX5_message_11 (by rw [c_11]; decide) (by rw [c_11]; decide) (by rw [c_11]; rfl) (by decide) ?_
        refine lv_aload_n hx hb dX5_message_44 rfl (lv_at hl 0 rfl) ?_
        refine w_get (v := .ref (sA u 44 0)) (fk := 23) hF hB ha0 (cn_20 env u (0)) rfl in_X5 (by decide) tw_3_118 rfl rfl dX5_message_45 ?_
        refine lv_iload_n hx hb dX5_message_48 rfl (lv_at hl 1 rfl) ?_
        refine w_iald (v := .int (nI (gN u.2.2 73 (0) (j_5)))) hF hB ⟨hM 44 (by decide), rfl⟩ (cn_44 env u (0)) (by omega) rfl (by decide) dX5_message_49 ?_
        exact w_iret (v := nI (gN u.2.2 73 (0) (j_5))) hF hr hlocks hB (⟨rfl, by first | (simp [mmessage, hj_6, hx_hj_8, c_11]; done) | (simp [mmessage, hj_6, hx_hj_8, c_11]; rfl) | (simp [mmessage, hj_6, hx_hj_8, c_11]; exact b2i_c0 (by simp [hj_6, hx_hj_8, c_11] <;> omega)) | (simp [mmessage, hj_6, hx_hj_8, c_11]; exact b2i_c1 (by simp [hj_6, hx_hj_8, c_11] <;> omega))⟩) dX5_message_50
      by_cases c_12 : j_9 = 1
      · refine lv_tableIn (tgt := 51) hx hb dX5_message_11 (by rw [c_12]; decide) (by rw [c_12]; decide) (by rw [c_12]; rfl) (by decide) ?_
        refine lv_aload_n hx hb dX5_message_51 rfl (lv_at hl 0 rfl) ?_
        refine w_get (v := .ref (sA u 45 0)) (fk := 24) hF hB ha0 (cn_20 env u (0)) rfl in_X5 (by decide) tw_3_119 rfl rfl dX5_message_52 ?_
        refine lv_iload_n hx hb dX5_message_55 rfl (lv_at hl 1 rfl) ?_
        refine w_iald (v := .int (nI (gN u.2.2 74 (0) (j_5)))) hF hB ⟨hM 45 (by decide), rfl⟩ (cn_45 env u (0)) (by omega) rfl (by decide) dX5_message_56 ?_
        exact w_iret (v := nI (gN u.2.2 74 (0) (j_5))) hF hr hlocks hB (⟨rfl, by first | (simp [mmessage, hj_6, hx_hj_8, c_11, c_12]; done) | (simp [mmessage, hj_6, hx_hj_8, c_11, c_12]; rfl) | (simp [mmessage, hj_6, hx_hj_8, c_11, c_12]; exact b2i_c0 (by simp [hj_6, hx_hj_8, c_11, c_12] <;> omega)) | (simp [mmessage, hj_6, hx_hj_8, c_11, c_12]; exact b2i_c1 (by simp [hj_6, hx_hj_8, c_11, c_12] <;> omega))⟩) dX5_message_57
      by_cases c_13 : j_9 = 2
      · refine lv_tableIn (tgt := 58) hx hb dX5_message_11 (by rw [c_13]; decide) (by rw [c_13]; decide) (by rw [c_13]; rfl) (by decide) ?_
        refine lv_aload_n hx hb dX5_message_58 rfl (lv_at hl 0 rfl) ?_
        refine w_get (v := .ref (sA u 46 0)) (fk := 25) hF hB ha0 (cn_20 env u (0)) rfl in_X5 (by decide) tw_3_120 rfl rfl dX5_message_59 ?_
        refine lv_iload_n hx hb dX5_message_62 rfl (lv_at hl 1 rfl) ?_
        refine w_iald (v := .int (nI (gN u.2.2 75 (0) (j_5)))) hF hB ⟨hM 46 (by decide), rfl⟩ (cn_46 env u (0)) (by omega) rfl (by decide) dX5_message_63 ?_
        exact w_iret (v := nI (gN u.2.2 75 (0) (j_5))) hF hr hlocks hB (⟨rfl, by first | (simp [mmessage, hj_6, hx_hj_8, c_11, c_12, c_13]; done) | (simp [mmessage, hj_6, hx_hj_8, c_11, c_12, c_13]; rfl) | (simp [mmessage, hj_6, hx_hj_8, c_11, c_12, c_13]; exact b2i_c0 (by simp [hj_6, hx_hj_8, c_11, c_12, c_13] <;> omega)) | (simp [mmessage, hj_6, hx_hj_8, c_11, c_12, c_13]; exact b2i_c1 (by simp [hj_6, hx_hj_8, c_11, c_12, c_13] <;> omega))⟩) dX5_message_64
      by_cases c_14 : j_9 = 3
      · refine lv_tableIn (tgt := 65) hx hb dX5_message_11 (by rw [c_14]; decide) (by rw [c_14]; decide) (by rw [c_14]; rfl) (by decide) ?_
        refine lv_aload_n hx hb dX5_message_65 rfl (lv_at hl 0 rfl) ?_
        refine w_get (v := .ref (sA u 47 0)) (fk := 26) hF hB ha0 (cn_20 env u (0)) rfl in_X5 (by decide) tw_3_121 rfl rfl dX5_message_66 ?_
        refine lv_iload_n hx hb dX5_message_69 rfl (lv_at hl 1 rfl) ?_
        refine w_iald (v := .int (nI (gN u.2.2 76 (0) (j_5)))) hF hB ⟨hM 47 (by decide), rfl⟩ (cn_47 env u (0)) (by omega) rfl (by decide) dX5_message_70 ?_
        exact w_iret (v := nI (gN u.2.2 76 (0) (j_5))) hF hr hlocks hB (⟨rfl, by first | (simp [mmessage, hj_6, hx_hj_8, c_11, c_12, c_13, c_14]; done) | (simp [mmessage, hj_6, hx_hj_8, c_11, c_12, c_13, c_14]; rfl) | (simp [mmessage, hj_6, hx_hj_8, c_11, c_12, c_13, c_14]; exact b2i_c0 (by simp [hj_6, hx_hj_8, c_11, c_12, c_13, c_14] <;> omega)) | (simp [mmessage, hj_6, hx_hj_8, c_11, c_12, c_13, c_14]; exact b2i_c1 (by simp [hj_6, hx_hj_8, c_11, c_12, c_13, c_14] <;> omega))⟩) dX5_message_71
      by_cases c_15 : j_9 = 4
      · refine lv_tableIn (tgt := 72) hx hb dX5_message_11 (by rw [c_15]; decide) (by rw [c_15]; decide) (by rw [c_15]; rfl) (by decide) ?_
        refine lv_aload_n hx hb dX5_message_72 rfl (lv_at hl 0 rfl) ?_
        refine lv_iload_n hx hb dX5_message_73 rfl (lv_at hl 1 rfl) ?_
        refine w_ci (r_V (As := [.int (nI (j_5))]) (rest := []) hF hB (c_X5_canCome l env s0 X u (a0) (0) (ha0) (j_5) hM hV hNm (by omega)) cv_X5_canCome tw_4_50 ⟨rfl, rfl, by decide, by decide⟩ (hB.recv ha0 (cn_20 env u (0)) rfl) rfl hl.1 rfl (lv_room (by decide)) dX5_message_74 ⟨Nat.le_of_ble_eq_true rfl, Nat.le_of_ble_eq_true rfl⟩) hB (fun r_16 u_18 H locs hq_17 hB => ?_)
        obtain ⟨rfl, rfl⟩ := hq_17
        refine w_ifeq_b (tgt := 84) hx hb dX5_message_77 (by decide) (fun c_19 => ?_) (fun c_19 => ?_)
        · refine lv_iconst (v := nI 0) hx hb dX5_message_84 (by decide) ?_
          exact w_iret (v := nI 0) hF hr hlocks hB (⟨rfl, by first | (simp [mmessage, hj_6, hx_hj_8, c_11, c_12, c_13, c_14, c_15, c_19]; done) | (simp [mmessage, hj_6, hx_hj_8, c_11, c_12, c_13, c_14, c_15, c_19]; rfl) | (simp [mmessage, hj_6, hx_hj_8, c_11, c_12, c_13, c_14, c_15, c_19]; exact b2i_c0 (by simp [hj_6, hx_hj_8, c_11, c_12, c_13, c_14, c_15, c_19] <;> omega)) | (simp [mmessage, hj_6, hx_hj_8, c_11, c_12, c_13, c_14, c_15, c_19]; exact b2i_c1 (by simp [hj_6, hx_hj_8, c_11, c_12, c_13, c_14, c_15, c_19] <;> omega))⟩) dX5_message_85
        · refine lv_iconst (v := nI 1) hx hb dX5_message_80 (by decide) ?_
          refine lv_goto (tgt := 85) hx hb dX5_message_81 (by decide) ?_
          exact w_iret (v := nI 1) hF hr hlocks hB (⟨rfl, by first | (simp [mmessage, hj_6, hx_hj_8, c_11, c_12, c_13, c_14, c_15, c_19]; done) | (simp [mmessage, hj_6, hx_hj_8, c_11, c_12, c_13, c_14, c_15, c_19]; rfl) | (simp [mmessage, hj_6, hx_hj_8, c_11, c_12, c_13, c_14, c_15, c_19]; exact b2i_c0 (by simp [hj_6, hx_hj_8, c_11, c_12, c_13, c_14, c_15, c_19] <;> omega)) | (simp [mmessage, hj_6, hx_hj_8, c_11, c_12, c_13, c_14, c_15, c_19]; exact b2i_c1 (by simp [hj_6, hx_hj_8, c_11, c_12, c_13, c_14, c_15, c_19] <;> omega))⟩) dX5_message_85
      omega
  · have hj_20 := Option.isSome_eq_false_iff.mp c_4
    rw [Option.isNone_iff_eq_none] at hj_20
    refine lv_iconst (v := -1) hx hb dX5_message_8 (by decide) ?_
    exact w_iret (v := -1) hF hr hlocks hB (⟨rfl, by first | (simp [mmessage, hj_20]; done) | (simp [mmessage, hj_20]; rfl) | (simp [mmessage, hj_20]; exact b2i_c0 (by simp [hj_20] <;> omega)) | (simp [mmessage, hj_20]; exact b2i_c1 (by simp [hj_20] <;> omega))⟩) dX5_message_9
set_option maxHeartbeats 4000000 in
set_option maxRecDepth 100000 in
theorem c_X5_told (l : Launch) (env : Ev) (s0 : Nat) (X : va_W) (u : St) (a0 : Nat) (_xa0 : Nat) (ha0 : At u 20 (0) a0) (v1 : Int32) (v2 : Int32) (hM : MI u) (hV : MV u.2.2) (hNm : Nb u.2.2) (hn : 1 ≤ gN u.2.2 50 0 0) : Met l yX5_told [Cond.code yX5_told cX5_told 3 (some .int)] { frames := 2, cells := 0, slots := 0, locals := 46 } (va_Pc [.ref (a0), .int (v1), .int (v2)] (Pr env s0 X u)) (va_Qi (fun r u' => u = u' ∧ r = mtold u.2.2 v1 v2) (Po env s0 X) (fun q => s0 ≤ q)) 0 0 (fun q => s0 ≤ q) := by
  refine Met.ofW (cc := cX5_told) (maxL := 3) (ret := (some .int)) (by decide) rfl ?_
  intro p e s m args below meth c s₁ B hml hv
  obtain ⟨rfl, hv⟩ := hv
  have hx := B.exec
  have hb := B.bytes
  have hr := B.returns
  have hts : ∀ ww ∈ TT, ww.before #[.ref (a0), .int (v1), .int (v2)] s = true := fun ww hw => hv.2.1 ww hw _
  have hown : s.vm.findClass RX5 = some m.cls := findClass_of_methodNamed B.named
  have hlocks := B.notSynchronized
  have hF : CallFix p m c cX5_told 3 s #[.ref (a0), .int (v1), .int (v2)] TT RX5 := ⟨hx, hb, hml, hown, hts⟩
  have hB := Bd.entry hv
  have hl := lv_entry ([.ref (a0), .int (v1), .int (v2)]) (n := 3) (Nat.le_of_ble_eq_true rfl)
  rw [lg_entry_eq]
  generalize (lg_sl ([.ref (a0), .int (v1), .int (v2)]) ++ List.replicate (3 - (lg_sl ([.ref (a0), .int (v1), .int (v2)])).length) Slot.unset).toArray = ls at hl ⊢
  have hl : lv_has ls 3 [(0, .ref (a0)), (1, .int (v1)), (2, .int (v2))] := hl
  have hn1 := hV.nth
  have hn2 := hV.ntx
  have hn3 := hV.nst
  have hn4 := hV.nms
  refine lv_aload_n hx hb dX5_told_0 rfl (lv_at hl 0 rfl) ?_
  refine lv_iload_n hx hb dX5_told_1 rfl (lv_at hl 1 rfl) ?_
  refine w_ci (r_V (As := [.int (v1)]) (rest := []) hF hB (c_X5_is l env s0 X u (a0) (0) (ha0) (v1) hM hNm) cv_X5_is tw_3_202 ⟨rfl, rfl, by decide, by decide⟩ (hB.recv ha0 (cn_20 env u (0)) rfl) rfl hl.1 rfl (lv_room (by decide)) dX5_told_2 ⟨Nat.le_of_ble_eq_true rfl, Nat.le_of_ble_eq_true rfl⟩) hB (fun r_1 u_3 H locs hq_2 hB => ?_)
  obtain ⟨rfl, rfl⟩ := hq_2
  refine w_ifne_b (tgt := 10) hx hb dX5_told_5 (by decide) (fun c_4 => ?_) (fun c_4 => ?_)
  · obtain ⟨j_5, hj_6⟩ := Option.isSome_iff_exists.mp c_4
    obtain ⟨hjl_7, rfl⟩ := ix_some (by have := hNm 55 0 0; omega) hj_6
    refine lv_iload_n hx hb dX5_told_10 rfl (lv_at hl 2 rfl) ?_
    rcases hx_hj_8 : ix v2 9 with _ | j_9
    · refine lv_tableOut (tgt := 152) hx hb dX5_told_11 (sw_out (n := 9) rfl (by decide) hx_hj_8) (by decide) ?_
      refine lv_iconst (v := -1) hx hb dX5_told_152 (by decide) ?_
      exact w_iret (v := -1) hF hr hlocks hB (⟨rfl, by first | (simp [mtold, hj_6, hx_hj_8]; done) | (simp [mtold, hj_6, hx_hj_8]; rfl) | (simp [mtold, hj_6, hx_hj_8]; exact b2i_c0 (by simp [mEvery, hj_6, hx_hj_8] <;> omega)) | (simp [mtold, hj_6, hx_hj_8]; exact b2i_c1 (by simp [mEvery, hj_6, hx_hj_8] <;> omega))⟩) dX5_told_153
    · obtain ⟨hjl_10, rfl⟩ := ix_some (by decide) hx_hj_8
      by_cases c_11 : j_9 = 0
      · refine lv_tableIn (tgt := 60) hx hb dX5_told_11 (by rw [c_11]; decide) (by rw [c_11]; decide) (by rw [c_11]; rfl) (by decide) ?_
        refine lv_aload_n hx hb dX5_told_60 rfl (lv_at hl 0 rfl) ?_
        refine w_get (v := .ref (sA u 28 0)) (fk := 7) hF hB ha0 (cn_20 env u (0)) rfl in_X5 (by decide) tw_3_102 rfl rfl dX5_told_61 ?_
        refine lv_iload_n hx hb dX5_told_64 rfl (lv_at hl 1 rfl) ?_
        refine w_iald (v := .int (nI (gN u.2.2 57 (0) (j_5)))) hF hB ⟨hM 28 (by decide), rfl⟩ (cn_28 env u (0)) (by omega) rfl (by decide) dX5_told_65 ?_
        exact w_iret (v := nI (gN u.2.2 57 (0) (j_5))) hF hr hlocks hB (⟨rfl, by first | (simp [mtold, hj_6, hx_hj_8, c_11]; done) | (simp [mtold, hj_6, hx_hj_8, c_11]; rfl) | (simp [mtold, hj_6, hx_hj_8, c_11]; exact b2i_c0 (by simp [mEvery, hj_6, hx_hj_8, c_11] <;> omega)) | (simp [mtold, hj_6, hx_hj_8, c_11]; exact b2i_c1 (by simp [mEvery, hj_6, hx_hj_8, c_11] <;> omega))⟩) dX5_told_66
      by_cases c_12 : j_9 = 1
      · refine lv_tableIn (tgt := 67) hx hb dX5_told_11 (by rw [c_12]; decide) (by rw [c_12]; decide) (by rw [c_12]; rfl) (by decide) ?_
        refine lv_aload_n hx hb dX5_told_67 rfl (lv_at hl 0 rfl) ?_
        refine w_get (v := .ref (sA u 27 0)) (fk := 6) hF hB ha0 (cn_20 env u (0)) rfl in_X5 (by decide) tw_3_101 rfl rfl dX5_told_68 ?_
        refine lv_iload_n hx hb dX5_told_71 rfl (lv_at hl 1 rfl) ?_
        refine w_iald (v := .int (nI (gN u.2.2 56 (0) (j_5)))) hF hB ⟨hM 27 (by decide), rfl⟩ (cn_27 env u (0)) (by omega) rfl (by decide) dX5_told_72 ?_
        exact w_iret (v := nI (gN u.2.2 56 (0) (j_5))) hF hr hlocks hB (⟨rfl, by first | (simp [mtold, hj_6, hx_hj_8, c_11, c_12]; done) | (simp [mtold, hj_6, hx_hj_8, c_11, c_12]; rfl) | (simp [mtold, hj_6, hx_hj_8, c_11, c_12]; exact b2i_c0 (by simp [mEvery, hj_6, hx_hj_8, c_11, c_12] <;> omega)) | (simp [mtold, hj_6, hx_hj_8, c_11, c_12]; exact b2i_c1 (by simp [mEvery, hj_6, hx_hj_8, c_11, c_12] <;> omega))⟩) dX5_told_73
      by_cases c_13 : j_9 = 2
      · refine lv_tableIn (tgt := 74) hx hb dX5_told_11 (by rw [c_13]; decide) (by rw [c_13]; decide) (by rw [c_13]; rfl) (by decide) ?_
        refine lv_aload_n hx hb dX5_told_74 rfl (lv_at hl 0 rfl) ?_
        refine w_get (v := .ref (sA u 30 0)) (fk := 9) hF hB ha0 (cn_20 env u (0)) rfl in_X5 (by decide) tw_3_104 rfl rfl dX5_told_75 ?_
        refine lv_iload_n hx hb dX5_told_78 rfl (lv_at hl 1 rfl) ?_
        refine w_iald (v := .int (nI (gN u.2.2 59 (0) (j_5)))) hF hB ⟨hM 30 (by decide), rfl⟩ (cn_30 env u (0)) (by omega) rfl (by decide) dX5_told_79 ?_
        exact w_iret (v := nI (gN u.2.2 59 (0) (j_5))) hF hr hlocks hB (⟨rfl, by first | (simp [mtold, hj_6, hx_hj_8, c_11, c_12, c_13]; done) | (simp [mtold, hj_6, hx_hj_8, c_11, c_12, c_13]; rfl) | (simp [mtold, hj_6, hx_hj_8, c_11, c_12, c_13]; exact b2i_c0 (by simp [mEvery, hj_6, hx_hj_8, c_11, c_12, c_13] <;> omega)) | (simp [mtold, hj_6, hx_hj_8, c_11, c_12, c_13]; exact b2i_c1 (by simp [mEvery, hj_6, hx_hj_8, c_11, c_12, c_13] <;> omega))⟩) dX5_told_80
      by_cases c_14 : j_9 = 3
      · refine lv_tableIn (tgt := 81) hx hb dX5_told_11 (by rw [c_14]; decide) (by rw [c_14]; decide) (by rw [c_14]; rfl) (by decide) ?_
        refine lv_aload_n hx hb dX5_told_81 rfl (lv_at hl 0 rfl) ?_
        refine w_get (v := .ref (sA u 31 0)) (fk := 10) hF hB ha0 (cn_20 env u (0)) rfl in_X5 (by decide) tw_3_105 rfl rfl dX5_told_82 ?_
        refine lv_iload_n hx hb dX5_told_85 rfl (lv_at hl 1 rfl) ?_
        refine w_iald (v := .int (nI (gN u.2.2 60 (0) (j_5)))) hF hB ⟨hM 31 (by decide), rfl⟩ (cn_31 env u (0)) (by omega) rfl (by decide) dX5_told_86 ?_
        exact w_iret (v := nI (gN u.2.2 60 (0) (j_5))) hF hr hlocks hB (⟨rfl, by first | (simp [mtold, hj_6, hx_hj_8, c_11, c_12, c_13, c_14]; done) | (simp [mtold, hj_6, hx_hj_8, c_11, c_12, c_13, c_14]; rfl) | (simp [mtold, hj_6, hx_hj_8, c_11, c_12, c_13, c_14]; exact b2i_c0 (by simp [mEvery, hj_6, hx_hj_8, c_11, c_12, c_13, c_14] <;> omega)) | (simp [mtold, hj_6, hx_hj_8, c_11, c_12, c_13, c_14]; exact b2i_c1 (by simp [mEvery, hj_6, hx_hj_8, c_11, c_12, c_13, c_14] <;> omega))⟩) dX5_told_87
      by_cases c_15 : j_9 = 4
      · refine lv_tableIn (tgt := 88) hx hb dX5_told_11 (by rw [c_15]; decide) (by rw [c_15]; decide) (by rw [c_15]; rfl) (by decide) ?_
        refine lv_aload_n hx hb dX5_told_88 rfl (lv_at hl 0 rfl) ?_
        refine lv_iload_n hx hb dX5_told_89 rfl (lv_at hl 1 rfl) ?_
        refine w_ci (r_V (As := [.int (nI (j_5))]) (rest := []) hF hB (c_X5_isSafe l env s0 X u (a0) (0) (ha0) (j_5) hM hV hNm (by omega)) cv_X5_isSafe tw_4_75 ⟨rfl, rfl, by decide, by decide⟩ (hB.recv ha0 (cn_20 env u (0)) rfl) rfl hl.1 rfl (lv_room (by decide)) dX5_told_90 ⟨Nat.le_of_ble_eq_true rfl, Nat.le_of_ble_eq_true rfl⟩) hB (fun r_16 u_18 H locs hq_17 hB => ?_)
        obtain ⟨rfl, rfl⟩ := hq_17
        refine w_ifeq_b (tgt := 100) hx hb dX5_told_93 (by decide) (fun c_19 => ?_) (fun c_19 => ?_)
        · refine lv_iconst (v := nI 0) hx hb dX5_told_100 (by decide) ?_
          exact w_iret (v := nI 0) hF hr hlocks hB (⟨rfl, by first | (simp [mtold, hj_6, hx_hj_8, c_11, c_12, c_13, c_14, c_15, c_19]; done) | (simp [mtold, hj_6, hx_hj_8, c_11, c_12, c_13, c_14, c_15, c_19]; rfl) | (simp [mtold, hj_6, hx_hj_8, c_11, c_12, c_13, c_14, c_15, c_19]; exact b2i_c0 (by simp [mEvery, hj_6, hx_hj_8, c_11, c_12, c_13, c_14, c_15, c_19] <;> omega)) | (simp [mtold, hj_6, hx_hj_8, c_11, c_12, c_13, c_14, c_15, c_19]; exact b2i_c1 (by simp [mEvery, hj_6, hx_hj_8, c_11, c_12, c_13, c_14, c_15, c_19] <;> omega))⟩) dX5_told_101
        · refine lv_iconst (v := nI 1) hx hb dX5_told_96 (by decide) ?_
          refine lv_goto (tgt := 101) hx hb dX5_told_97 (by decide) ?_
          exact w_iret (v := nI 1) hF hr hlocks hB (⟨rfl, by first | (simp [mtold, hj_6, hx_hj_8, c_11, c_12, c_13, c_14, c_15, c_19]; done) | (simp [mtold, hj_6, hx_hj_8, c_11, c_12, c_13, c_14, c_15, c_19]; rfl) | (simp [mtold, hj_6, hx_hj_8, c_11, c_12, c_13, c_14, c_15, c_19]; exact b2i_c0 (by simp [mEvery, hj_6, hx_hj_8, c_11, c_12, c_13, c_14, c_15, c_19] <;> omega)) | (simp [mtold, hj_6, hx_hj_8, c_11, c_12, c_13, c_14, c_15, c_19]; exact b2i_c1 (by simp [mEvery, hj_6, hx_hj_8, c_11, c_12, c_13, c_14, c_15, c_19] <;> omega))⟩) dX5_told_101
      by_cases c_20 : j_9 = 5
      · refine lv_tableIn (tgt := 102) hx hb dX5_told_11 (by rw [c_20]; decide) (by rw [c_20]; decide) (by rw [c_20]; rfl) (by decide) ?_
        refine lv_aload_n hx hb dX5_told_102 rfl (lv_at hl 0 rfl) ?_
        refine w_get (v := .ref (sA u 30 0)) (fk := 9) hF hB ha0 (cn_20 env u (0)) rfl in_X5 (by decide) tw_3_104 rfl rfl dX5_told_103 ?_
        refine lv_iload_n hx hb dX5_told_106 rfl (lv_at hl 1 rfl) ?_
        refine w_iald (v := .int (nI (gN u.2.2 59 (0) (j_5)))) hF hB ⟨hM 30 (by decide), rfl⟩ (cn_30 env u (0)) (by omega) rfl (by decide) dX5_told_107 ?_
        refine w_ifle_n (tgt := 130) (by have := hNm 59 (0) (j_5); omega) hx hb dX5_told_108 (by decide) (fun c_21 => ?_) (fun c_21 => ?_)
        · refine lv_iconst (v := nI 0) hx hb dX5_told_130 (by decide) ?_
          exact w_iret (v := nI 0) hF hr hlocks hB (⟨rfl, by first | (simp [mtold, hj_6, hx_hj_8, c_11, c_12, c_13, c_14, c_15, c_20, c_21]; done) | (simp [mtold, hj_6, hx_hj_8, c_11, c_12, c_13, c_14, c_15, c_20, c_21]; rfl) | (simp [mtold, hj_6, hx_hj_8, c_11, c_12, c_13, c_14, c_15, c_20, c_21]; exact b2i_c0 (by simp [mEvery, hj_6, hx_hj_8, c_11, c_12, c_13, c_14, c_15, c_20, c_21] <;> omega)) | (simp [mtold, hj_6, hx_hj_8, c_11, c_12, c_13, c_14, c_15, c_20, c_21]; exact b2i_c1 (by simp [mEvery, hj_6, hx_hj_8, c_11, c_12, c_13, c_14, c_15, c_20, c_21] <;> omega))⟩) dX5_told_131
        · refine lv_aload_n hx hb dX5_told_111 rfl (lv_at hl 0 rfl) ?_
          refine w_get (v := .ref (sA u 31 0)) (fk := 10) hF hB ha0 (cn_20 env u (0)) rfl in_X5 (by decide) tw_3_105 rfl rfl dX5_told_112 ?_
          refine lv_iload_n hx hb dX5_told_115 rfl (lv_at hl 1 rfl) ?_
          refine w_iald (v := .int (nI (gN u.2.2 60 (0) (j_5)))) hF hB ⟨hM 31 (by decide), rfl⟩ (cn_31 env u (0)) (by omega) rfl (by decide) dX5_told_116 ?_
          refine lv_aload_n hx hb dX5_told_117 rfl (lv_at hl 0 rfl) ?_
          refine w_get (v := .int (nI (gN u.2.2 50 (0) (0)))) (fk := 0) hF hB ha0 (cn_20 env u (0)) rfl in_X5 (by decide) tw_3_95 rfl rfl dX5_told_118 ?_
          refine lv_iconst (v := nI 1) hx hb dX5_told_121 (by decide) ?_
          refine w_isub_n (by omega) hx hb dX5_told_122 ?_
          refine w_icne_n (tgt := 130) (by have := hNm 60 (0) (j_5); omega) (by have := hNm 50 (0) (0); omega) hx hb dX5_told_123 (by decide) (fun c_22 => ?_) (fun c_22 => ?_)
          · refine lv_iconst (v := nI 0) hx hb dX5_told_130 (by decide) ?_
            exact w_iret (v := nI 0) hF hr hlocks hB (⟨rfl, by first | (simp [mtold, hj_6, hx_hj_8, c_11, c_12, c_13, c_14, c_15, c_20, c_21, c_22]; done) | (simp [mtold, hj_6, hx_hj_8, c_11, c_12, c_13, c_14, c_15, c_20, c_21, c_22]; rfl) | (simp [mtold, hj_6, hx_hj_8, c_11, c_12, c_13, c_14, c_15, c_20, c_21, c_22]; exact b2i_c0 (by simp [mEvery, hj_6, hx_hj_8, c_11, c_12, c_13, c_14, c_15, c_20, c_21, c_22] <;> omega)) | (simp [mtold, hj_6, hx_hj_8, c_11, c_12, c_13, c_14, c_15, c_20, c_21, c_22]; exact b2i_c1 (by simp [mEvery, hj_6, hx_hj_8, c_11, c_12, c_13, c_14, c_15, c_20, c_21, c_22] <;> omega))⟩) dX5_told_131
          · refine lv_iconst (v := nI 1) hx hb dX5_told_126 (by decide) ?_
            refine lv_goto (tgt := 131) hx hb dX5_told_127 (by decide) ?_
            exact w_iret (v := nI 1) hF hr hlocks hB (⟨rfl, by first | (simp [mtold, hj_6, hx_hj_8, c_11, c_12, c_13, c_14, c_15, c_20, c_21, c_22]; done) | (simp [mtold, hj_6, hx_hj_8, c_11, c_12, c_13, c_14, c_15, c_20, c_21, c_22]; rfl) | (simp [mtold, hj_6, hx_hj_8, c_11, c_12, c_13, c_14, c_15, c_20, c_21, c_22]; exact b2i_c0 (by simp [mEvery, hj_6, hx_hj_8, c_11, c_12, c_13, c_14, c_15, c_20, c_21, c_22] <;> omega)) | (simp [mtold, hj_6, hx_hj_8, c_11, c_12, c_13, c_14, c_15, c_20, c_21, c_22]; exact b2i_c1 (by simp [mEvery, hj_6, hx_hj_8, c_11, c_12, c_13, c_14, c_15, c_20, c_21, c_22] <;> omega))⟩) dX5_told_131
      by_cases c_23 : j_9 = 6
      · refine lv_tableIn (tgt := 132) hx hb dX5_told_11 (by rw [c_23]; decide) (by rw [c_23]; decide) (by rw [c_23]; rfl) (by decide) ?_
        refine lv_aload_n hx hb dX5_told_132 rfl (lv_at hl 0 rfl) ?_
        refine lv_iload_n hx hb dX5_told_133 rfl (lv_at hl 1 rfl) ?_
        refine w_ci (r_V (As := [.int (nI (j_5))]) (rest := []) hF hB (c_X5_plain l env s0 X u (a0) (0) (ha0) (j_5) hM hV hNm (by omega)) cv_X5_plain tw_3_234 ⟨rfl, rfl, by decide, by decide⟩ (hB.recv ha0 (cn_20 env u (0)) rfl) rfl hl.1 rfl (lv_room (by decide)) dX5_told_134 ⟨Nat.le_of_ble_eq_true rfl, Nat.le_of_ble_eq_true rfl⟩) hB (fun r_24 u_26 H locs hq_25 hB => ?_)
        obtain ⟨rfl, rfl⟩ := hq_25
        exact w_iret (v := nI (mPlain u.2.2 (j_5))) hF hr hlocks hB (⟨rfl, by first | (simp [mtold, hj_6, hx_hj_8, c_11, c_12, c_13, c_14, c_15, c_20, c_23]; done) | (simp [mtold, hj_6, hx_hj_8, c_11, c_12, c_13, c_14, c_15, c_20, c_23]; rfl) | (simp [mtold, hj_6, hx_hj_8, c_11, c_12, c_13, c_14, c_15, c_20, c_23]; exact b2i_c0 (by simp [mEvery, hj_6, hx_hj_8, c_11, c_12, c_13, c_14, c_15, c_20, c_23] <;> omega)) | (simp [mtold, hj_6, hx_hj_8, c_11, c_12, c_13, c_14, c_15, c_20, c_23]; exact b2i_c1 (by simp [mEvery, hj_6, hx_hj_8, c_11, c_12, c_13, c_14, c_15, c_20, c_23] <;> omega))⟩) dX5_told_137
      by_cases c_27 : j_9 = 7
      · refine lv_tableIn (tgt := 138) hx hb dX5_told_11 (by rw [c_27]; decide) (by rw [c_27]; decide) (by rw [c_27]; rfl) (by decide) ?_
        refine lv_aload_n hx hb dX5_told_138 rfl (lv_at hl 0 rfl) ?_
        refine w_get (v := .ref (sA u 32 0)) (fk := 11) hF hB ha0 (cn_20 env u (0)) rfl in_X5 (by decide) tw_3_106 rfl rfl dX5_told_139 ?_
        refine lv_iload_n hx hb dX5_told_142 rfl (lv_at hl 1 rfl) ?_
        refine w_iald (v := .int (nI (gN u.2.2 61 (0) (j_5)))) hF hB ⟨hM 32 (by decide), rfl⟩ (cn_32 env u (0)) (by omega) rfl (by decide) dX5_told_143 ?_
        exact w_iret (v := nI (gN u.2.2 61 (0) (j_5))) hF hr hlocks hB (⟨rfl, by first | (simp [mtold, hj_6, hx_hj_8, c_11, c_12, c_13, c_14, c_15, c_20, c_23, c_27]; done) | (simp [mtold, hj_6, hx_hj_8, c_11, c_12, c_13, c_14, c_15, c_20, c_23, c_27]; rfl) | (simp [mtold, hj_6, hx_hj_8, c_11, c_12, c_13, c_14, c_15, c_20, c_23, c_27]; exact b2i_c0 (by simp [mEvery, hj_6, hx_hj_8, c_11, c_12, c_13, c_14, c_15, c_20, c_23, c_27] <;> omega)) | (simp [mtold, hj_6, hx_hj_8, c_11, c_12, c_13, c_14, c_15, c_20, c_23, c_27]; exact b2i_c1 (by simp [mEvery, hj_6, hx_hj_8, c_11, c_12, c_13, c_14, c_15, c_20, c_23, c_27] <;> omega))⟩) dX5_told_144
      by_cases c_28 : j_9 = 8
      · refine lv_tableIn (tgt := 145) hx hb dX5_told_11 (by rw [c_28]; decide) (by rw [c_28]; decide) (by rw [c_28]; rfl) (by decide) ?_
        refine lv_aload_n hx hb dX5_told_145 rfl (lv_at hl 0 rfl) ?_
        refine w_get (v := .ref (sA u 33 0)) (fk := 12) hF hB ha0 (cn_20 env u (0)) rfl in_X5 (by decide) tw_3_107 rfl rfl dX5_told_146 ?_
        refine lv_iload_n hx hb dX5_told_149 rfl (lv_at hl 1 rfl) ?_
        refine w_iald (v := .int (nI (gN u.2.2 62 (0) (j_5)))) hF hB ⟨hM 33 (by decide), rfl⟩ (cn_33 env u (0)) (by omega) rfl (by decide) dX5_told_150 ?_
        exact w_iret (v := nI (gN u.2.2 62 (0) (j_5))) hF hr hlocks hB (⟨rfl, by first | (simp [mtold, hj_6, hx_hj_8, c_11, c_12, c_13, c_14, c_15, c_20, c_23, c_27, c_28]; done) | (simp [mtold, hj_6, hx_hj_8, c_11, c_12, c_13, c_14, c_15, c_20, c_23, c_27, c_28]; rfl) | (simp [mtold, hj_6, hx_hj_8, c_11, c_12, c_13, c_14, c_15, c_20, c_23, c_27, c_28]; exact b2i_c0 (by simp [mEvery, hj_6, hx_hj_8, c_11, c_12, c_13, c_14, c_15, c_20, c_23, c_27, c_28] <;> omega)) | (simp [mtold, hj_6, hx_hj_8, c_11, c_12, c_13, c_14, c_15, c_20, c_23, c_27, c_28]; exact b2i_c1 (by simp [mEvery, hj_6, hx_hj_8, c_11, c_12, c_13, c_14, c_15, c_20, c_23, c_27, c_28] <;> omega))⟩) dX5_told_151
      omega
  · have hj_29 := Option.isSome_eq_false_iff.mp c_4
    rw [Option.isNone_iff_eq_none] at hj_29
    refine lv_iconst (v := -1) hx hb dX5_told_8 (by decide) ?_
    exact w_iret (v := -1) hF hr hlocks hB (⟨rfl, by first | (simp [mtold, hj_29]; done) | (simp [mtold, hj_29]; rfl) | (simp [mtold, hj_29]; exact b2i_c0 (by simp [mEvery, hj_29] <;> omega)) | (simp [mtold, hj_29]; exact b2i_c1 (by simp [mEvery, hj_29] <;> omega))⟩) dX5_told_9
set_option maxHeartbeats 4000000 in
set_option maxRecDepth 100000 in
theorem c_X5_calm (l : Launch) (env : Ev) (s0 : Nat) (X : va_W) (u : St) (a0 : Nat) (_xa0 : Nat) (ha0 : At u 20 (0) a0) (hM : MI u) (hV : MV u.2.2) (hNm : Nb u.2.2) : Met l yX5_calm [Cond.code yX5_calm cX5_calm 4 (some .int)] { frames := 0, cells := 0, slots := 0, locals := 0 } (va_Pc [.ref (a0)] (Pr env s0 X u)) (va_Qi (fun r u' => u = u' ∧ r = b2i (mCalm u.2.2)) (Po env s0 X) (fun q => s0 ≤ q)) 0 0 (fun q => s0 ≤ q) := by
  refine Met.ofW (cc := cX5_calm) (maxL := 4) (ret := (some .int)) (by decide) rfl ?_
  intro p e s m args below meth c s₁ B hml hv
  obtain ⟨rfl, hv⟩ := hv
  have hx := B.exec
  have hb := B.bytes
  have hr := B.returns
  have hts : ∀ ww ∈ TT, ww.before #[.ref (a0)] s = true := fun ww hw => hv.2.1 ww hw _
  have hown : s.vm.findClass RX5 = some m.cls := findClass_of_methodNamed B.named
  have hlocks := B.notSynchronized
  have hF : CallFix p m c cX5_calm 4 s #[.ref (a0)] TT RX5 := ⟨hx, hb, hml, hown, hts⟩
  have hB := Bd.entry hv
  have hl := lv_entry ([.ref (a0)]) (n := 4) (Nat.le_of_ble_eq_true rfl)
  rw [lg_entry_eq]
  generalize (lg_sl ([.ref (a0)]) ++ List.replicate (4 - (lg_sl ([.ref (a0)])).length) Slot.unset).toArray = ls at hl ⊢
  have hl : lv_has ls 4 [(0, .ref (a0))] := hl
  have hn1 := hV.nth
  have hn2 := hV.ntx
  have hn3 := hV.nst
  have hn4 := hV.nms
  refine lv_iconst (v := nI 1) hx hb dX5_calm_0 (by decide) ?_
  refine lv_istore_n (lv' := [(1, .int (nI (1))), (0, .ref (a0))]) hx hb dX5_calm_1 rfl hl (by decide) rfl (fun ls hl => ?_)
  refine lv_iconst (v := nI 0) hx hb dX5_calm_2 (by decide) ?_
  refine lv_istore_n (lv' := [(2, .int (nI (0))), (1, .int (nI (1))), (0, .ref (a0))]) hx hb dX5_calm_3 rfl hl (by decide) rfl (fun ls hl => ?_)
  have ea_2 : allN (mCaR u.2.2) (0) = true := by simp [allN_0, anyN_0, sumL_0, mCaR] <;> omega
  refine wloopH (σ := Heap × List Loc × Array Slot) (G := fun x => W p l e _ s m _ below meth c x.1 x.2.1 _ _ _ (F0 m 4 x.2.2 [])) (P := fun i_1 x => (True) ∧ Bd env s0 X u s x.1 x.2.1 ∧ lv_has x.2.2 4 [(0, .ref (a0)), (1, .int (b2i (allN (mCaR u.2.2) (i_1)))), (2, .int (nI (i_1)))]) (N := gN u.2.2 50 0 0) ?_ 0 (_, _, ls) (Nat.zero_le _) ⟨trivial, hB, by show lv_has ls 4 [(0, .ref (a0)), (1, .int (b2i (allN (mCaR u.2.2) (0)))), (2, .int (nI (0)))]; rw [ea_2]; exact lv_sub hl [2, 1, 0] rfl⟩
  rintro i_1 ⟨H, locs, ls⟩ hi_3 ⟨hv_4, hB, hl⟩ ih4
  replace hB : Bd env s0 X u s H locs := hB
  replace hl : lv_has ls 4 [(0, .ref (a0)), (1, .int (b2i (allN (mCaR u.2.2) (i_1)))), (2, .int (nI (i_1)))] := hl
  show W p l e _ s m _ below meth c H locs _ _ _ (F0 m 4 ls [])
  have := hNm 50 0 0
  have := hV.nst
  refine lv_iload_n hx hb dX5_calm_4 rfl (lv_at hl 2 rfl) ?_
  refine lv_aload_n hx hb dX5_calm_5 rfl (lv_at hl 0 rfl) ?_
  refine w_get (v := .int (nI (gN u.2.2 50 (0) (0)))) (fk := 0) hF hB ha0 (cn_20 env u (0)) rfl in_X5 (by decide) tw_3_95 rfl rfl dX5_calm_6 ?_
  refine w_icge_n (tgt := 67) (by omega) (by have := hNm 50 (0) (0); omega) hx hb dX5_calm_9 (by decide) (fun c_5 => ?_) (fun c_5 => ?_)
  · refine lv_iload_n hx hb dX5_calm_67 rfl (lv_at hl 1 rfl) ?_
    refine w_ifeq_b (tgt := 75) hx hb dX5_calm_68 (by decide) (fun c_6 => ?_) (fun c_6 => ?_)
    · refine lv_iconst (v := nI 0) hx hb dX5_calm_75 (by decide) ?_
      exact w_iret (v := nI 0) hF hr hlocks hB (⟨rfl, b2i_c0 (by rw [mCalm, show gN u.2.2 50 0 0 = i_1 by omega]; exact c_6)⟩) dX5_calm_76
    · refine lv_iconst (v := nI 1) hx hb dX5_calm_71 (by decide) ?_
      refine lv_goto (tgt := 76) hx hb dX5_calm_72 (by decide) ?_
      exact w_iret (v := nI 1) hF hr hlocks hB (⟨rfl, b2i_c1 (by rw [mCalm, show gN u.2.2 50 0 0 = i_1 by omega]; exact c_6)⟩) dX5_calm_76
  · refine lv_iconst (v := nI 0) hx hb dX5_calm_12 (by decide) ?_
    refine lv_istore_n (lv' := [(3, .int (nI (0))), (0, .ref (a0)), (1, .int (b2i (allN (mCaR u.2.2) (i_1)))), (2, .int (nI (i_1)))]) hx hb dX5_calm_13 rfl hl (by decide) rfl (fun ls hl => ?_)
    have ea_8 : (allN (mCaR u.2.2) i_1 && allN (mCaQ u.2.2 i_1) (0)) = allN (mCaR u.2.2) (i_1) := by simp [allN_0, anyN_0, sumL_0, mCaQ, c_5] <;> omega
    refine wloopH (σ := Heap × List Loc × Array Slot) (G := fun x => W p l e _ s m _ below meth c x.1 x.2.1 _ _ _ (F0 m 14 x.2.2 [])) (P := fun i_7 x => (True) ∧ Bd env s0 X u s x.1 x.2.1 ∧ lv_has x.2.2 4 [(0, .ref (a0)), (1, .int (b2i ((allN (mCaR u.2.2) i_1 && allN (mCaQ u.2.2 i_1) (i_7))))), (2, .int (nI (i_1))), (3, .int (nI (i_7)))]) (N := gN u.2.2 50 0 0) ?_ 0 (_, _, ls) (Nat.zero_le _) ⟨trivial, hB, by show lv_has ls 4 [(0, .ref (a0)), (1, .int (b2i ((allN (mCaR u.2.2) i_1 && allN (mCaQ u.2.2 i_1) (0))))), (2, .int (nI (i_1))), (3, .int (nI (0)))]; rw [ea_8]; exact lv_sub hl [1, 2, 3, 0] rfl⟩
    rintro i_7 ⟨H, locs, ls⟩ hi_9 ⟨hv_10, hB, hl⟩ ih14
    replace hB : Bd env s0 X u s H locs := hB
    replace hl : lv_has ls 4 [(0, .ref (a0)), (1, .int (b2i ((allN (mCaR u.2.2) i_1 && allN (mCaQ u.2.2 i_1) (i_7))))), (2, .int (nI (i_1))), (3, .int (nI (i_7)))] := hl
    show W p l e _ s m _ below meth c H locs _ _ _ (F0 m 14 ls [])
    have := hNm 50 0 0
    have := hV.nst
    refine lv_iload_n hx hb dX5_calm_14 rfl (lv_at hl 3 rfl) ?_
    refine lv_aload_n hx hb dX5_calm_15 rfl (lv_at hl 0 rfl) ?_
    refine w_get (v := .int (nI (gN u.2.2 50 (0) (0)))) (fk := 0) hF hB ha0 (cn_20 env u (0)) rfl in_X5 (by decide) tw_3_95 rfl rfl dX5_calm_16 ?_
    refine w_icge_n (tgt := 61) (by omega) (by have := hNm 50 (0) (0); omega) hx hb dX5_calm_19 (by decide) (fun c_11 => ?_) (fun c_11 => ?_)
    · refine lv_iinc (v := nI (i_1 + 1)) (lv' := [(2, .int (nI (i_1 + 1))), (0, .ref (a0)), (1, .int (b2i ((allN (mCaR u.2.2) i_1 && allN (mCaQ u.2.2 i_1) (i_7))))), (3, .int (nI (i_7)))]) hx hb dX5_calm_61 hl (k := 2) rfl (nI_add _ _) (by decide) rfl (fun ls hl => ?_)
      refine lv_goto (tgt := 4) hx hb dX5_calm_64 (by decide) ?_
      have ea_12 : allN (mCaR u.2.2) (i_1 + 1) = (allN (mCaR u.2.2) i_1 && allN (mCaQ u.2.2 i_1) (i_7)) := by rw [allN_s, mCaR, show gN u.2.2 50 0 0 = i_7 by omega]
      exact ih4 (H, locs, ls) (by omega) ⟨trivial, hB, by show lv_has ls 4 [(0, .ref (a0)), (1, .int (b2i (allN (mCaR u.2.2) (i_1 + 1)))), (2, .int (nI (i_1 + 1)))]; rw [ea_12]; exact lv_sub hl [1, 2, 0] rfl⟩
    · refine lv_iload_n hx hb dX5_calm_22 rfl (lv_at hl 1 rfl) ?_
      refine w_ifeq_b (tgt := 53) hx hb dX5_calm_23 (by decide) (fun c_13 => ?_) (fun c_13 => ?_)
      · refine lv_iconst (v := nI 0) hx hb dX5_calm_53 (by decide) ?_
        refine lv_istore_n (lv' := [(1, .int (nI (0))), (0, .ref (a0)), (2, .int (nI (i_1))), (3, .int (nI (i_7)))]) hx hb dX5_calm_54 rfl hl (by decide) rfl (fun ls hl => ?_)
        refine lv_iinc (v := nI (i_7 + 1)) (lv' := [(3, .int (nI (i_7 + 1))), (1, .int (nI (0))), (0, .ref (a0)), (2, .int (nI (i_1)))]) hx hb dX5_calm_55 hl (k := 3) rfl (nI_add _ _) (by decide) rfl (fun ls hl => ?_)
        refine lv_goto (tgt := 14) hx hb dX5_calm_58 (by decide) ?_
        have ea_14 : (allN (mCaR u.2.2) i_1 && allN (mCaQ u.2.2 i_1) (i_7 + 1)) = false := by first | (simp [allN_s, anyN_s, cntN_s, sumL_s, Int64.add_assoc, mCaQ, c_11, c_13] <;> omega) | grind [allN_s, anyN_s, cntN_s, sumL_s, Int64.add_assoc, mCaQ]
        exact ih14 (H, locs, ls) (by omega) ⟨trivial, hB, by show lv_has ls 4 [(0, .ref (a0)), (1, .int (b2i ((allN (mCaR u.2.2) i_1 && allN (mCaQ u.2.2 i_1) (i_7 + 1))))), (2, .int (nI (i_1))), (3, .int (nI (i_7 + 1)))]; rw [ea_14]; exact lv_sub hl [2, 1, 3, 0] rfl⟩
      · refine lv_aload_n hx hb dX5_calm_26 rfl (lv_at hl 0 rfl) ?_
        refine w_get (v := .ref (sA u 39 0)) (fk := 18) hF hB ha0 (cn_20 env u (0)) rfl in_X5 (by decide) tw_3_113 rfl rfl dX5_calm_27 ?_
        refine lv_iconst (v := nI 4) hx hb dX5_calm_30 (by decide) ?_
        refine lv_iload_n hx hb dX5_calm_31 rfl (lv_at hl 2 rfl) ?_
        refine w_imul_n hx hb dX5_calm_32 ?_
        refine lv_iload_n hx hb dX5_calm_33 rfl (lv_at hl 3 rfl) ?_
        refine w_iadd_n hx hb dX5_calm_34 ?_
        refine w_iald (v := .int (nI (gN u.2.2 68 (0) ((4 * i_1) + i_7)))) hF hB ⟨hM 39 (by decide), rfl⟩ (cn_39 env u (0)) (by omega) rfl (by decide) dX5_calm_35 ?_
        refine lv_aload_n hx hb dX5_calm_36 rfl (lv_at hl 0 rfl) ?_
        refine w_get (v := .ref (sA u 39 0)) (fk := 18) hF hB ha0 (cn_20 env u (0)) rfl in_X5 (by decide) tw_3_113 rfl rfl dX5_calm_37 ?_
        refine lv_iconst (v := nI 4) hx hb dX5_calm_40 (by decide) ?_
        refine lv_iload_n hx hb dX5_calm_41 rfl (lv_at hl 3 rfl) ?_
        refine w_imul_n hx hb dX5_calm_42 ?_
        refine lv_iload_n hx hb dX5_calm_43 rfl (lv_at hl 3 rfl) ?_
        refine w_iadd_n hx hb dX5_calm_44 ?_
        refine w_iald (v := .int (nI (gN u.2.2 68 (0) ((4 * i_7) + i_7)))) hF hB ⟨hM 39 (by decide), rfl⟩ (cn_39 env u (0)) (by omega) rfl (by decide) dX5_calm_45 ?_
        refine w_icne_n (tgt := 53) (by have := hNm 68 (0) ((4 * i_1) + i_7); omega) (by have := hNm 68 (0) ((4 * i_7) + i_7); omega) hx hb dX5_calm_46 (by decide) (fun c_15 => ?_) (fun c_15 => ?_)
        · refine lv_iconst (v := nI 0) hx hb dX5_calm_53 (by decide) ?_
          refine lv_istore_n (lv' := [(1, .int (nI (0))), (0, .ref (a0)), (2, .int (nI (i_1))), (3, .int (nI (i_7)))]) hx hb dX5_calm_54 rfl hl (by decide) rfl (fun ls hl => ?_)
          refine lv_iinc (v := nI (i_7 + 1)) (lv' := [(3, .int (nI (i_7 + 1))), (1, .int (nI (0))), (0, .ref (a0)), (2, .int (nI (i_1)))]) hx hb dX5_calm_55 hl (k := 3) rfl (nI_add _ _) (by decide) rfl (fun ls hl => ?_)
          refine lv_goto (tgt := 14) hx hb dX5_calm_58 (by decide) ?_
          have ea_16 : (allN (mCaR u.2.2) i_1 && allN (mCaQ u.2.2 i_1) (i_7 + 1)) = false := by first | (simp [allN_s, anyN_s, cntN_s, sumL_s, Int64.add_assoc, mCaQ, c_11, c_13, c_15] <;> omega) | grind [allN_s, anyN_s, cntN_s, sumL_s, Int64.add_assoc, mCaQ]
          exact ih14 (H, locs, ls) (by omega) ⟨trivial, hB, by show lv_has ls 4 [(0, .ref (a0)), (1, .int (b2i ((allN (mCaR u.2.2) i_1 && allN (mCaQ u.2.2 i_1) (i_7 + 1))))), (2, .int (nI (i_1))), (3, .int (nI (i_7 + 1)))]; rw [ea_16]; exact lv_sub hl [2, 1, 3, 0] rfl⟩
        · refine lv_iconst (v := nI 1) hx hb dX5_calm_49 (by decide) ?_
          refine lv_goto (tgt := 54) hx hb dX5_calm_50 (by decide) ?_
          refine lv_istore_n (lv' := [(1, .int (nI (1))), (0, .ref (a0)), (2, .int (nI (i_1))), (3, .int (nI (i_7)))]) hx hb dX5_calm_54 rfl hl (by decide) rfl (fun ls hl => ?_)
          refine lv_iinc (v := nI (i_7 + 1)) (lv' := [(3, .int (nI (i_7 + 1))), (1, .int (nI (1))), (0, .ref (a0)), (2, .int (nI (i_1)))]) hx hb dX5_calm_55 hl (k := 3) rfl (nI_add _ _) (by decide) rfl (fun ls hl => ?_)
          refine lv_goto (tgt := 14) hx hb dX5_calm_58 (by decide) ?_
          have ea_17 : (allN (mCaR u.2.2) i_1 && allN (mCaQ u.2.2 i_1) (i_7 + 1)) = true := by first | (simp [allN_s, anyN_s, cntN_s, sumL_s, Int64.add_assoc, mCaQ, c_11, c_13, c_15] <;> omega) | grind [allN_s, anyN_s, cntN_s, sumL_s, Int64.add_assoc, mCaQ]
          exact ih14 (H, locs, ls) (by omega) ⟨trivial, hB, by show lv_has ls 4 [(0, .ref (a0)), (1, .int (b2i ((allN (mCaR u.2.2) i_1 && allN (mCaQ u.2.2 i_1) (i_7 + 1))))), (2, .int (nI (i_1))), (3, .int (nI (i_7 + 1)))]; rw [ea_17]; exact lv_sub hl [2, 1, 3, 0] rfl⟩
set_option maxHeartbeats 4000000 in
set_option maxRecDepth 100000 in
theorem c_X5_count (l : Launch) (env : Ev) (s0 : Nat) (X : va_W) (u : St) (a0 : Nat) (_xa0 : Nat) (ha0 : At u 20 (0) a0) (v1 : Int32) (hM : MI u) (hV : MV u.2.2) (hNm : Nb u.2.2) : Met l yX5_count [Cond.code yX5_count cX5_count 8 (some .int)] { frames := 1, cells := 0, slots := 0, locals := 21 } (va_Pc [.ref (a0), .int (v1)] (Pr env s0 X u)) (va_Qi (fun r u' => u = u' ∧ r = mcount u.2.2 v1) (Po env s0 X) (fun q => s0 ≤ q)) 0 0 (fun q => s0 ≤ q) := by
  refine Met.ofW (cc := cX5_count) (maxL := 8) (ret := (some .int)) (by decide) rfl ?_
  intro p e s m args below meth c s₁ B hml hv
  obtain ⟨rfl, hv⟩ := hv
  have hx := B.exec
  have hb := B.bytes
  have hr := B.returns
  have hts : ∀ ww ∈ TT, ww.before #[.ref (a0), .int (v1)] s = true := fun ww hw => hv.2.1 ww hw _
  have hown : s.vm.findClass RX5 = some m.cls := findClass_of_methodNamed B.named
  have hlocks := B.notSynchronized
  have hF : CallFix p m c cX5_count 8 s #[.ref (a0), .int (v1)] TT RX5 := ⟨hx, hb, hml, hown, hts⟩
  have hB := Bd.entry hv
  have hl := lv_entry ([.ref (a0), .int (v1)]) (n := 8) (Nat.le_of_ble_eq_true rfl)
  rw [lg_entry_eq]
  generalize (lg_sl ([.ref (a0), .int (v1)]) ++ List.replicate (8 - (lg_sl ([.ref (a0), .int (v1)])).length) Slot.unset).toArray = ls at hl ⊢
  have hl : lv_has ls 8 [(0, .ref (a0)), (1, .int (v1))] := hl
  have hn1 := hV.nth
  have hn2 := hV.ntx
  have hn3 := hV.nst
  have hn4 := hV.nms
  refine lv_iconst (v := nI 0) hx hb dX5_count_0 (by decide) ?_
  refine lv_istore_n (lv' := [(2, .int (nI (0))), (0, .ref (a0)), (1, .int (v1))]) hx hb dX5_count_1 rfl hl (by decide) rfl (fun ls hl => ?_)
  refine lv_iconst (v := nI 0) hx hb dX5_count_2 (by decide) ?_
  refine lv_istore_n (lv' := [(3, .int (nI (0))), (2, .int (nI (0))), (0, .ref (a0)), (1, .int (v1))]) hx hb dX5_count_3 rfl hl (by decide) rfl (fun ls hl => ?_)
  refine lv_iconst (v := nI 0) hx hb dX5_count_4 (by decide) ?_
  refine lv_istore (lv' := [(4, .int (nI (0))), (3, .int (nI (0))), (2, .int (nI (0))), (0, .ref (a0)), (1, .int (v1))]) hx hb dX5_count_5 hl (by decide) rfl (fun ls hl => ?_)
  refine lv_iconst (v := nI 0) hx hb dX5_count_7 (by decide) ?_
  refine lv_istore (lv' := [(5, .int (nI (0))), (4, .int (nI (0))), (3, .int (nI (0))), (2, .int (nI (0))), (0, .ref (a0)), (1, .int (v1))]) hx hb dX5_count_8 hl (by decide) rfl (fun ls hl => ?_)
  refine lv_iconst (v := nI 0) hx hb dX5_count_10 (by decide) ?_
  refine lv_istore (lv' := [(6, .int (nI (0))), (5, .int (nI (0))), (4, .int (nI (0))), (3, .int (nI (0))), (2, .int (nI (0))), (0, .ref (a0)), (1, .int (v1))]) hx hb dX5_count_11 hl (by decide) rfl (fun ls hl => ?_)
  refine wloopH (σ := Heap × List Loc × Array Slot) (G := fun x => W p l e _ s m _ below meth c x.1 x.2.1 _ _ _ (F0 m 13 x.2.2 [])) (P := fun i_1 x => (True) ∧ Bd env s0 X u s x.1 x.2.1 ∧ lv_has x.2.2 8 [(0, .ref (a0)), (1, .int (v1)), (2, .int (nI (cntN (mStQ u.2.2 2) (i_1)))), (3, .int (nI (cntN (mStQ u.2.2 3) (i_1)))), (4, .int (nI (cntN (mMdQ u.2.2) (i_1)))), (5, .int (nI (cntN (mIsSafe u.2.2) (i_1)))), (6, .int (nI (i_1)))]) (N := gN u.2.2 55 0 0) ?_ 0 (_, _, ls) (Nat.zero_le _) ⟨trivial, hB, lv_sub hl [5, 6, 4, 3, 2, 1, 0] rfl⟩
  rintro i_1 ⟨H, locs, ls⟩ hi_2 ⟨hv_3, hB, hl⟩ ih13
  replace hB : Bd env s0 X u s H locs := hB
  replace hl : lv_has ls 8 [(0, .ref (a0)), (1, .int (v1)), (2, .int (nI (cntN (mStQ u.2.2 2) (i_1)))), (3, .int (nI (cntN (mStQ u.2.2 3) (i_1)))), (4, .int (nI (cntN (mMdQ u.2.2) (i_1)))), (5, .int (nI (cntN (mIsSafe u.2.2) (i_1)))), (6, .int (nI (i_1)))] := hl
  show W p l e _ s m _ below meth c H locs _ _ _ (F0 m 13 ls [])
  have := hNm 55 0 0
  have := hV.ntx
  refine lv_iload hx hb dX5_count_13 (lv_at hl 6 rfl) ?_
  refine lv_aload_n hx hb dX5_count_15 rfl (lv_at hl 0 rfl) ?_
  refine w_get (v := .int (nI (gN u.2.2 55 (0) (0)))) (fk := 5) hF hB ha0 (cn_20 env u (0)) rfl in_X5 (by decide) tw_3_100 rfl rfl dX5_count_16 ?_
  refine w_icge_n (tgt := 105) (by omega) (by have := hNm 55 (0) (0); omega) hx hb dX5_count_19 (by decide) (fun c_4 => ?_) (fun c_4 => ?_)
  · obtain rfl : i_1 = gN u.2.2 55 0 0 := by omega
    refine lv_iconst (v := nI 0) hx hb dX5_count_105 (by decide) ?_
    refine lv_istore (lv' := [(6, .int (nI (0))), (0, .ref (a0)), (1, .int (v1)), (2, .int (nI (cntN (mStQ u.2.2 2) (gN u.2.2 55 0 0)))), (3, .int (nI (cntN (mStQ u.2.2 3) (gN u.2.2 55 0 0)))), (4, .int (nI (cntN (mMdQ u.2.2) (gN u.2.2 55 0 0)))), (5, .int (nI (cntN (mIsSafe u.2.2) (gN u.2.2 55 0 0))))]) hx hb dX5_count_106 hl (by decide) rfl (fun ls hl => ?_)
    refine lv_iconst (v := nI 0) hx hb dX5_count_108 (by decide) ?_
    refine lv_istore (lv' := [(7, .int (nI (0))), (6, .int (nI (0))), (0, .ref (a0)), (1, .int (v1)), (2, .int (nI (cntN (mStQ u.2.2 2) (gN u.2.2 55 0 0)))), (3, .int (nI (cntN (mStQ u.2.2 3) (gN u.2.2 55 0 0)))), (4, .int (nI (cntN (mMdQ u.2.2) (gN u.2.2 55 0 0)))), (5, .int (nI (cntN (mIsSafe u.2.2) (gN u.2.2 55 0 0))))]) hx hb dX5_count_109 hl (by decide) rfl (fun ls hl => ?_)
    refine wloopH (σ := Heap × List Loc × Array Slot) (G := fun x => W p l e _ s m _ below meth c x.1 x.2.1 _ _ _ (F0 m 111 x.2.2 [])) (P := fun i_5 x => (True) ∧ Bd env s0 X u s x.1 x.2.1 ∧ lv_has x.2.2 8 [(0, .ref (a0)), (1, .int (v1)), (2, .int (nI (cntN (mStQ u.2.2 2) (gN u.2.2 55 0 0)))), (3, .int (nI (cntN (mStQ u.2.2 3) (gN u.2.2 55 0 0)))), (4, .int (nI (cntN (mMdQ u.2.2) (gN u.2.2 55 0 0)))), (5, .int (nI (cntN (mIsSafe u.2.2) (gN u.2.2 55 0 0)))), (6, .int (nI (cntN (mHdQ u.2.2) (i_5)))), (7, .int (nI (i_5)))]) (N := 48) ?_ 0 (_, _, ls) (Nat.zero_le _) ⟨trivial, hB, lv_sub hl [2, 3, 4, 5, 6, 7, 1, 0] rfl⟩
    rintro i_5 ⟨H, locs, ls⟩ hi_6 ⟨hv_7, hB, hl⟩ ih111
    replace hB : Bd env s0 X u s H locs := hB
    replace hl : lv_has ls 8 [(0, .ref (a0)), (1, .int (v1)), (2, .int (nI (cntN (mStQ u.2.2 2) (gN u.2.2 55 0 0)))), (3, .int (nI (cntN (mStQ u.2.2 3) (gN u.2.2 55 0 0)))), (4, .int (nI (cntN (mMdQ u.2.2) (gN u.2.2 55 0 0)))), (5, .int (nI (cntN (mIsSafe u.2.2) (gN u.2.2 55 0 0)))), (6, .int (nI (cntN (mHdQ u.2.2) (i_5)))), (7, .int (nI (i_5)))] := hl
    show W p l e _ s m _ below meth c H locs _ _ _ (F0 m 111 ls [])
    refine lv_iload hx hb dX5_count_111 (lv_at hl 7 rfl) ?_
    refine lv_bipush (v := nI 48) hx hb dX5_count_113 (by decide) ?_
    refine w_icge_n (tgt := 146) (by omega) (by decide) hx hb dX5_count_115 (by decide) (fun c_8 => ?_) (fun c_8 => ?_)
    · obtain rfl : i_5 = 48 := by omega
      refine lv_iload_n hx hb dX5_count_146 rfl (lv_at hl 1 rfl) ?_
      rcases hx_hj_9 : ix v1 10 with _ | j_10
      · refine lv_tableOut (tgt := 238) hx hb dX5_count_147 (sw_out (n := 10) rfl (by decide) hx_hj_9) (by decide) ?_
        refine lv_iconst (v := -1) hx hb dX5_count_238 (by decide) ?_
        exact w_iret (v := -1) hF hr hlocks hB (⟨rfl, by first | (simp [mcount, c_4, c_8, hx_hj_9]; done) | (simp [mcount, c_4, c_8, hx_hj_9]; rfl) | (simp [mcount, c_4, c_8, hx_hj_9]; exact b2i_c0 (by simp [c_4, c_8, hx_hj_9] <;> omega)) | (simp [mcount, c_4, c_8, hx_hj_9]; exact b2i_c1 (by simp [c_4, c_8, hx_hj_9] <;> omega))⟩) dX5_count_239
      · obtain ⟨hjl_11, rfl⟩ := ix_some (by decide) hx_hj_9
        by_cases c_12 : j_10 = 0
        · refine lv_tableIn (tgt := 200) hx hb dX5_count_147 (by rw [c_12]; decide) (by rw [c_12]; decide) (by rw [c_12]; rfl) (by decide) ?_
          refine lv_aload_n hx hb dX5_count_200 rfl (lv_at hl 0 rfl) ?_
          refine w_get (v := .int (nI (gN u.2.2 50 (0) (0)))) (fk := 0) hF hB ha0 (cn_20 env u (0)) rfl in_X5 (by decide) tw_3_95 rfl rfl dX5_count_201 ?_
          exact w_iret (v := nI (gN u.2.2 50 (0) (0))) hF hr hlocks hB (⟨rfl, by first | (simp [mcount, c_4, c_8, hx_hj_9, c_12]; done) | (simp [mcount, c_4, c_8, hx_hj_9, c_12]; rfl) | (simp [mcount, c_4, c_8, hx_hj_9, c_12]; exact b2i_c0 (by simp [c_4, c_8, hx_hj_9, c_12] <;> omega)) | (simp [mcount, c_4, c_8, hx_hj_9, c_12]; exact b2i_c1 (by simp [c_4, c_8, hx_hj_9, c_12] <;> omega))⟩) dX5_count_204
        by_cases c_13 : j_10 = 1
        · refine lv_tableIn (tgt := 205) hx hb dX5_count_147 (by rw [c_13]; decide) (by rw [c_13]; decide) (by rw [c_13]; rfl) (by decide) ?_
          refine lv_aload_n hx hb dX5_count_205 rfl (lv_at hl 0 rfl) ?_
          refine w_get (v := .int (nI (gN u.2.2 51 (0) (0)))) (fk := 1) hF hB ha0 (cn_20 env u (0)) rfl in_X5 (by decide) tw_3_96 rfl rfl dX5_count_206 ?_
          exact w_iret (v := nI (gN u.2.2 51 (0) (0))) hF hr hlocks hB (⟨rfl, by first | (simp [mcount, c_4, c_8, hx_hj_9, c_12, c_13]; done) | (simp [mcount, c_4, c_8, hx_hj_9, c_12, c_13]; rfl) | (simp [mcount, c_4, c_8, hx_hj_9, c_12, c_13]; exact b2i_c0 (by simp [c_4, c_8, hx_hj_9, c_12, c_13] <;> omega)) | (simp [mcount, c_4, c_8, hx_hj_9, c_12, c_13]; exact b2i_c1 (by simp [c_4, c_8, hx_hj_9, c_12, c_13] <;> omega))⟩) dX5_count_209
        by_cases c_14 : j_10 = 2
        · refine lv_tableIn (tgt := 210) hx hb dX5_count_147 (by rw [c_14]; decide) (by rw [c_14]; decide) (by rw [c_14]; rfl) (by decide) ?_
          refine lv_aload_n hx hb dX5_count_210 rfl (lv_at hl 0 rfl) ?_
          refine w_get (v := .int (nI (gN u.2.2 52 (0) (0)))) (fk := 2) hF hB ha0 (cn_20 env u (0)) rfl in_X5 (by decide) tw_3_97 rfl rfl dX5_count_211 ?_
          exact w_iret (v := nI (gN u.2.2 52 (0) (0))) hF hr hlocks hB (⟨rfl, by first | (simp [mcount, c_4, c_8, hx_hj_9, c_12, c_13, c_14]; done) | (simp [mcount, c_4, c_8, hx_hj_9, c_12, c_13, c_14]; rfl) | (simp [mcount, c_4, c_8, hx_hj_9, c_12, c_13, c_14]; exact b2i_c0 (by simp [c_4, c_8, hx_hj_9, c_12, c_13, c_14] <;> omega)) | (simp [mcount, c_4, c_8, hx_hj_9, c_12, c_13, c_14]; exact b2i_c1 (by simp [c_4, c_8, hx_hj_9, c_12, c_13, c_14] <;> omega))⟩) dX5_count_214
        by_cases c_15 : j_10 = 3
        · refine lv_tableIn (tgt := 215) hx hb dX5_count_147 (by rw [c_15]; decide) (by rw [c_15]; decide) (by rw [c_15]; rfl) (by decide) ?_
          refine lv_aload_n hx hb dX5_count_215 rfl (lv_at hl 0 rfl) ?_
          refine w_get (v := .int (nI (gN u.2.2 55 (0) (0)))) (fk := 5) hF hB ha0 (cn_20 env u (0)) rfl in_X5 (by decide) tw_3_100 rfl rfl dX5_count_216 ?_
          exact w_iret (v := nI (gN u.2.2 55 (0) (0))) hF hr hlocks hB (⟨rfl, by first | (simp [mcount, c_4, c_8, hx_hj_9, c_12, c_13, c_14, c_15]; done) | (simp [mcount, c_4, c_8, hx_hj_9, c_12, c_13, c_14, c_15]; rfl) | (simp [mcount, c_4, c_8, hx_hj_9, c_12, c_13, c_14, c_15]; exact b2i_c0 (by simp [c_4, c_8, hx_hj_9, c_12, c_13, c_14, c_15] <;> omega)) | (simp [mcount, c_4, c_8, hx_hj_9, c_12, c_13, c_14, c_15]; exact b2i_c1 (by simp [c_4, c_8, hx_hj_9, c_12, c_13, c_14, c_15] <;> omega))⟩) dX5_count_219
        by_cases c_16 : j_10 = 4
        · refine lv_tableIn (tgt := 220) hx hb dX5_count_147 (by rw [c_16]; decide) (by rw [c_16]; decide) (by rw [c_16]; rfl) (by decide) ?_
          refine lv_aload_n hx hb dX5_count_220 rfl (lv_at hl 0 rfl) ?_
          refine w_get (v := .int (nI (gN u.2.2 72 (0) (0)))) (fk := 22) hF hB ha0 (cn_20 env u (0)) rfl in_X5 (by decide) tw_3_117 rfl rfl dX5_count_221 ?_
          exact w_iret (v := nI (gN u.2.2 72 (0) (0))) hF hr hlocks hB (⟨rfl, by first | (simp [mcount, c_4, c_8, hx_hj_9, c_12, c_13, c_14, c_15, c_16]; done) | (simp [mcount, c_4, c_8, hx_hj_9, c_12, c_13, c_14, c_15, c_16]; rfl) | (simp [mcount, c_4, c_8, hx_hj_9, c_12, c_13, c_14, c_15, c_16]; exact b2i_c0 (by simp [c_4, c_8, hx_hj_9, c_12, c_13, c_14, c_15, c_16] <;> omega)) | (simp [mcount, c_4, c_8, hx_hj_9, c_12, c_13, c_14, c_15, c_16]; exact b2i_c1 (by simp [c_4, c_8, hx_hj_9, c_12, c_13, c_14, c_15, c_16] <;> omega))⟩) dX5_count_224
        by_cases c_17 : j_10 = 5
        · refine lv_tableIn (tgt := 225) hx hb dX5_count_147 (by rw [c_17]; decide) (by rw [c_17]; decide) (by rw [c_17]; rfl) (by decide) ?_
          refine lv_iload_n hx hb dX5_count_225 rfl (lv_at hl 2 rfl) ?_
          exact w_iret (v := nI (cntN (mStQ u.2.2 2) (gN u.2.2 55 0 0))) hF hr hlocks hB (⟨rfl, by first | (simp [mcount, c_4, c_8, hx_hj_9, c_12, c_13, c_14, c_15, c_16, c_17]; done) | (simp [mcount, c_4, c_8, hx_hj_9, c_12, c_13, c_14, c_15, c_16, c_17]; rfl) | (simp [mcount, c_4, c_8, hx_hj_9, c_12, c_13, c_14, c_15, c_16, c_17]; exact b2i_c0 (by simp [c_4, c_8, hx_hj_9, c_12, c_13, c_14, c_15, c_16, c_17] <;> omega)) | (simp [mcount, c_4, c_8, hx_hj_9, c_12, c_13, c_14, c_15, c_16, c_17]; exact b2i_c1 (by simp [c_4, c_8, hx_hj_9, c_12, c_13, c_14, c_15, c_16, c_17] <;> omega))⟩) dX5_count_226
        by_cases c_18 : j_10 = 6
        · refine lv_tableIn (tgt := 227) hx hb dX5_count_147 (by rw [c_18]; decide) (by rw [c_18]; decide) (by rw [c_18]; rfl) (by decide) ?_
          refine lv_iload_n hx hb dX5_count_227 rfl (lv_at hl 3 rfl) ?_
          exact w_iret (v := nI (cntN (mStQ u.2.2 3) (gN u.2.2 55 0 0))) hF hr hlocks hB (⟨rfl, by first | (simp [mcount, c_4, c_8, hx_hj_9, c_12, c_13, c_14, c_15, c_16, c_17, c_18]; done) | (simp [mcount, c_4, c_8, hx_hj_9, c_12, c_13, c_14, c_15, c_16, c_17, c_18]; rfl) | (simp [mcount, c_4, c_8, hx_hj_9, c_12, c_13, c_14, c_15, c_16, c_17, c_18]; exact b2i_c0 (by simp [c_4, c_8, hx_hj_9, c_12, c_13, c_14, c_15, c_16, c_17, c_18] <;> omega)) | (simp [mcount, c_4, c_8, hx_hj_9, c_12, c_13, c_14, c_15, c_16, c_17, c_18]; exact b2i_c1 (by simp [c_4, c_8, hx_hj_9, c_12, c_13, c_14, c_15, c_16, c_17, c_18] <;> omega))⟩) dX5_count_228
        by_cases c_19 : j_10 = 7
        · refine lv_tableIn (tgt := 229) hx hb dX5_count_147 (by rw [c_19]; decide) (by rw [c_19]; decide) (by rw [c_19]; rfl) (by decide) ?_
          refine lv_iload hx hb dX5_count_229 (lv_at hl 4 rfl) ?_
          exact w_iret (v := nI (cntN (mMdQ u.2.2) (gN u.2.2 55 0 0))) hF hr hlocks hB (⟨rfl, by first | (simp [mcount, c_4, c_8, hx_hj_9, c_12, c_13, c_14, c_15, c_16, c_17, c_18, c_19]; done) | (simp [mcount, c_4, c_8, hx_hj_9, c_12, c_13, c_14, c_15, c_16, c_17, c_18, c_19]; rfl) | (simp [mcount, c_4, c_8, hx_hj_9, c_12, c_13, c_14, c_15, c_16, c_17, c_18, c_19]; exact b2i_c0 (by simp [c_4, c_8, hx_hj_9, c_12, c_13, c_14, c_15, c_16, c_17, c_18, c_19] <;> omega)) | (simp [mcount, c_4, c_8, hx_hj_9, c_12, c_13, c_14, c_15, c_16, c_17, c_18, c_19]; exact b2i_c1 (by simp [c_4, c_8, hx_hj_9, c_12, c_13, c_14, c_15, c_16, c_17, c_18, c_19] <;> omega))⟩) dX5_count_231
        by_cases c_20 : j_10 = 8
        · refine lv_tableIn (tgt := 232) hx hb dX5_count_147 (by rw [c_20]; decide) (by rw [c_20]; decide) (by rw [c_20]; rfl) (by decide) ?_
          refine lv_iload hx hb dX5_count_232 (lv_at hl 6 rfl) ?_
          exact w_iret (v := nI (cntN (mHdQ u.2.2) (48))) hF hr hlocks hB (⟨rfl, by first | (simp [mcount, c_4, c_8, hx_hj_9, c_12, c_13, c_14, c_15, c_16, c_17, c_18, c_19, c_20]; done) | (simp [mcount, c_4, c_8, hx_hj_9, c_12, c_13, c_14, c_15, c_16, c_17, c_18, c_19, c_20]; rfl) | (simp [mcount, c_4, c_8, hx_hj_9, c_12, c_13, c_14, c_15, c_16, c_17, c_18, c_19, c_20]; exact b2i_c0 (by simp [c_4, c_8, hx_hj_9, c_12, c_13, c_14, c_15, c_16, c_17, c_18, c_19, c_20] <;> omega)) | (simp [mcount, c_4, c_8, hx_hj_9, c_12, c_13, c_14, c_15, c_16, c_17, c_18, c_19, c_20]; exact b2i_c1 (by simp [c_4, c_8, hx_hj_9, c_12, c_13, c_14, c_15, c_16, c_17, c_18, c_19, c_20] <;> omega))⟩) dX5_count_234
        by_cases c_21 : j_10 = 9
        · refine lv_tableIn (tgt := 235) hx hb dX5_count_147 (by rw [c_21]; decide) (by rw [c_21]; decide) (by rw [c_21]; rfl) (by decide) ?_
          refine lv_iload hx hb dX5_count_235 (lv_at hl 5 rfl) ?_
          exact w_iret (v := nI (cntN (mIsSafe u.2.2) (gN u.2.2 55 0 0))) hF hr hlocks hB (⟨rfl, by first | (simp [mcount, c_4, c_8, hx_hj_9, c_12, c_13, c_14, c_15, c_16, c_17, c_18, c_19, c_20, c_21]; done) | (simp [mcount, c_4, c_8, hx_hj_9, c_12, c_13, c_14, c_15, c_16, c_17, c_18, c_19, c_20, c_21]; rfl) | (simp [mcount, c_4, c_8, hx_hj_9, c_12, c_13, c_14, c_15, c_16, c_17, c_18, c_19, c_20, c_21]; exact b2i_c0 (by simp [c_4, c_8, hx_hj_9, c_12, c_13, c_14, c_15, c_16, c_17, c_18, c_19, c_20, c_21] <;> omega)) | (simp [mcount, c_4, c_8, hx_hj_9, c_12, c_13, c_14, c_15, c_16, c_17, c_18, c_19, c_20, c_21]; exact b2i_c1 (by simp [c_4, c_8, hx_hj_9, c_12, c_13, c_14, c_15, c_16, c_17, c_18, c_19, c_20, c_21] <;> omega))⟩) dX5_count_237
        omega
    · refine lv_iload hx hb dX5_count_118 (lv_at hl 6 rfl) ?_
      refine lv_aload_n hx hb dX5_count_120 rfl (lv_at hl 0 rfl) ?_
      refine w_get (v := .ref (sA u 42 0)) (fk := 21) hF hB ha0 (cn_20 env u (0)) rfl in_X5 (by decide) tw_3_116 rfl rfl dX5_count_121 ?_
      refine lv_iload hx hb dX5_count_124 (lv_at hl 7 rfl) ?_
      refine w_iald (v := .int (gI u.2.2 71 (0) (i_5))) hF hB ⟨hM 42 (by decide), rfl⟩ (cn_42 env u (0)) (by omega) rfl (by decide) dX5_count_126 ?_
      refine lv_bipush (v := -4) hx hb dX5_count_127 (by decide) ?_
      refine lv_icmp_eq (tgt := 136) hx hb dX5_count_129 (by decide) (fun c_22 => ?_) (fun c_22 => ?_)
      · refine lv_iconst (v := nI 0) hx hb dX5_count_136 (by decide) ?_
        refine w_iadd_n hx hb dX5_count_137 ?_
        refine lv_istore (lv' := [(6, .int (nI ((cntN (mHdQ u.2.2) (i_5)) + 0))), (0, .ref (a0)), (1, .int (v1)), (2, .int (nI (cntN (mStQ u.2.2 2) (gN u.2.2 55 0 0)))), (3, .int (nI (cntN (mStQ u.2.2 3) (gN u.2.2 55 0 0)))), (4, .int (nI (cntN (mMdQ u.2.2) (gN u.2.2 55 0 0)))), (5, .int (nI (cntN (mIsSafe u.2.2) (gN u.2.2 55 0 0)))), (7, .int (nI (i_5)))]) hx hb dX5_count_138 hl (by decide) rfl (fun ls hl => ?_)
        refine lv_iinc (v := nI (i_5 + 1)) (lv' := [(7, .int (nI (i_5 + 1))), (6, .int (nI ((cntN (mHdQ u.2.2) (i_5)) + 0))), (0, .ref (a0)), (1, .int (v1)), (2, .int (nI (cntN (mStQ u.2.2 2) (gN u.2.2 55 0 0)))), (3, .int (nI (cntN (mStQ u.2.2 3) (gN u.2.2 55 0 0)))), (4, .int (nI (cntN (mMdQ u.2.2) (gN u.2.2 55 0 0)))), (5, .int (nI (cntN (mIsSafe u.2.2) (gN u.2.2 55 0 0))))]) hx hb dX5_count_140 hl (k := 7) rfl (nI_add _ _) (by decide) rfl (fun ls hl => ?_)
        refine lv_goto (tgt := 111) hx hb dX5_count_143 (by decide) ?_
        have ea_23 : cntN (mHdQ u.2.2) (i_5 + 1) = (cntN (mHdQ u.2.2) (i_5)) + 0 := by first | (simp [allN_s, anyN_s, cntN_s, sumL_s, Int64.add_assoc, mHdQ, c_8, c_22] <;> omega) | grind [allN_s, anyN_s, cntN_s, sumL_s, Int64.add_assoc, mHdQ]
        exact ih111 (H, locs, ls) (by omega) ⟨trivial, hB, by show lv_has ls 8 [(0, .ref (a0)), (1, .int (v1)), (2, .int (nI (cntN (mStQ u.2.2 2) (gN u.2.2 55 0 0)))), (3, .int (nI (cntN (mStQ u.2.2 3) (gN u.2.2 55 0 0)))), (4, .int (nI (cntN (mMdQ u.2.2) (gN u.2.2 55 0 0)))), (5, .int (nI (cntN (mIsSafe u.2.2) (gN u.2.2 55 0 0)))), (6, .int (nI (cntN (mHdQ u.2.2) (i_5 + 1)))), (7, .int (nI (i_5 + 1)))]; rw [ea_23]; exact lv_sub hl [2, 3, 4, 5, 6, 7, 1, 0] rfl⟩
      · refine lv_iconst (v := nI 1) hx hb dX5_count_132 (by decide) ?_
        refine lv_goto (tgt := 137) hx hb dX5_count_133 (by decide) ?_
        refine w_iadd_n hx hb dX5_count_137 ?_
        refine lv_istore (lv' := [(6, .int (nI ((cntN (mHdQ u.2.2) (i_5)) + 1))), (0, .ref (a0)), (1, .int (v1)), (2, .int (nI (cntN (mStQ u.2.2 2) (gN u.2.2 55 0 0)))), (3, .int (nI (cntN (mStQ u.2.2 3) (gN u.2.2 55 0 0)))), (4, .int (nI (cntN (mMdQ u.2.2) (gN u.2.2 55 0 0)))), (5, .int (nI (cntN (mIsSafe u.2.2) (gN u.2.2 55 0 0)))), (7, .int (nI (i_5)))]) hx hb dX5_count_138 hl (by decide) rfl (fun ls hl => ?_)
        refine lv_iinc (v := nI (i_5 + 1)) (lv' := [(7, .int (nI (i_5 + 1))), (6, .int (nI ((cntN (mHdQ u.2.2) (i_5)) + 1))), (0, .ref (a0)), (1, .int (v1)), (2, .int (nI (cntN (mStQ u.2.2 2) (gN u.2.2 55 0 0)))), (3, .int (nI (cntN (mStQ u.2.2 3) (gN u.2.2 55 0 0)))), (4, .int (nI (cntN (mMdQ u.2.2) (gN u.2.2 55 0 0)))), (5, .int (nI (cntN (mIsSafe u.2.2) (gN u.2.2 55 0 0))))]) hx hb dX5_count_140 hl (k := 7) rfl (nI_add _ _) (by decide) rfl (fun ls hl => ?_)
        refine lv_goto (tgt := 111) hx hb dX5_count_143 (by decide) ?_
        have ea_24 : cntN (mHdQ u.2.2) (i_5 + 1) = (cntN (mHdQ u.2.2) (i_5)) + 1 := by first | (simp [allN_s, anyN_s, cntN_s, sumL_s, Int64.add_assoc, mHdQ, c_8, c_22] <;> omega) | grind [allN_s, anyN_s, cntN_s, sumL_s, Int64.add_assoc, mHdQ]
        exact ih111 (H, locs, ls) (by omega) ⟨trivial, hB, by show lv_has ls 8 [(0, .ref (a0)), (1, .int (v1)), (2, .int (nI (cntN (mStQ u.2.2 2) (gN u.2.2 55 0 0)))), (3, .int (nI (cntN (mStQ u.2.2 3) (gN u.2.2 55 0 0)))), (4, .int (nI (cntN (mMdQ u.2.2) (gN u.2.2 55 0 0)))), (5, .int (nI (cntN (mIsSafe u.2.2) (gN u.2.2 55 0 0)))), (6, .int (nI (cntN (mHdQ u.2.2) (i_5 + 1)))), (7, .int (nI (i_5 + 1)))]; rw [ea_24]; exact lv_sub hl [2, 3, 4, 5, 6, 7, 1, 0] rfl⟩
  · refine lv_iload_n hx hb dX5_count_22 rfl (lv_at hl 2 rfl) ?_
    refine lv_aload_n hx hb dX5_count_23 rfl (lv_at hl 0 rfl) ?_
    refine w_get (v := .ref (sA u 28 0)) (fk := 7) hF hB ha0 (cn_20 env u (0)) rfl in_X5 (by decide) tw_3_102 rfl rfl dX5_count_24 ?_
    refine lv_iload hx hb dX5_count_27 (lv_at hl 6 rfl) ?_
    refine w_iald (v := .int (nI (gN u.2.2 57 (0) (i_1)))) hF hB ⟨hM 28 (by decide), rfl⟩ (cn_28 env u (0)) (by omega) rfl (by decide) dX5_count_29 ?_
    refine lv_iconst (v := nI 2) hx hb dX5_count_30 (by decide) ?_
    refine w_icne_n (tgt := 38) (by have := hNm 57 (0) (i_1); omega) (by decide) hx hb dX5_count_31 (by decide) (fun c_25 => ?_) (fun c_25 => ?_)
    · refine lv_iconst (v := nI 0) hx hb dX5_count_38 (by decide) ?_
      refine w_iadd_n hx hb dX5_count_39 ?_
      refine lv_istore_n (lv' := [(2, .int (nI ((cntN (mStQ u.2.2 2) (i_1)) + 0))), (0, .ref (a0)), (1, .int (v1)), (3, .int (nI (cntN (mStQ u.2.2 3) (i_1)))), (4, .int (nI (cntN (mMdQ u.2.2) (i_1)))), (5, .int (nI (cntN (mIsSafe u.2.2) (i_1)))), (6, .int (nI (i_1)))]) hx hb dX5_count_40 rfl hl (by decide) rfl (fun ls hl => ?_)
      refine lv_iload_n hx hb dX5_count_41 rfl (lv_at hl 3 rfl) ?_
      refine lv_aload_n hx hb dX5_count_42 rfl (lv_at hl 1 rfl) ?_
      refine w_get (v := .ref (sA u 28 0)) (fk := 7) hF hB ha0 (cn_20 env u (0)) rfl in_X5 (by decide) tw_3_102 rfl rfl dX5_count_43 ?_
      refine lv_iload hx hb dX5_count_46 (lv_at hl 6 rfl) ?_
      refine w_iald (v := .int (nI (gN u.2.2 57 (0) (i_1)))) hF hB ⟨hM 28 (by decide), rfl⟩ (cn_28 env u (0)) (by omega) rfl (by decide) dX5_count_48 ?_
      refine lv_iconst (v := nI 3) hx hb dX5_count_49 (by decide) ?_
      refine w_icne_n (tgt := 57) (by have := hNm 57 (0) (i_1); omega) (by decide) hx hb dX5_count_50 (by decide) (fun c_26 => ?_) (fun c_26 => ?_)
      · refine lv_iconst (v := nI 0) hx hb dX5_count_57 (by decide) ?_
        refine w_iadd_n hx hb dX5_count_58 ?_
        refine lv_istore_n (lv' := [(3, .int (nI ((cntN (mStQ u.2.2 3) (i_1)) + 0))), (2, .int (nI ((cntN (mStQ u.2.2 2) (i_1)) + 0))), (0, .ref (a0)), (1, .int (v1)), (4, .int (nI (cntN (mMdQ u.2.2) (i_1)))), (5, .int (nI (cntN (mIsSafe u.2.2) (i_1)))), (6, .int (nI (i_1)))]) hx hb dX5_count_59 rfl hl (by decide) rfl (fun ls hl => ?_)
        refine lv_iload hx hb dX5_count_60 (lv_at hl 4 rfl) ?_
        refine lv_aload_n hx hb dX5_count_62 rfl (lv_at hl 2 rfl) ?_
        refine w_get (v := .ref (sA u 30 0)) (fk := 9) hF hB ha0 (cn_20 env u (0)) rfl in_X5 (by decide) tw_3_104 rfl rfl dX5_count_63 ?_
        refine lv_iload hx hb dX5_count_66 (lv_at hl 6 rfl) ?_
        refine w_iald (v := .int (nI (gN u.2.2 59 (0) (i_1)))) hF hB ⟨hM 30 (by decide), rfl⟩ (cn_30 env u (0)) (by omega) rfl (by decide) dX5_count_68 ?_
        refine w_ifle_n (tgt := 76) (by have := hNm 59 (0) (i_1); omega) hx hb dX5_count_69 (by decide) (fun c_27 => ?_) (fun c_27 => ?_)
        · refine lv_iconst (v := nI 0) hx hb dX5_count_76 (by decide) ?_
          refine w_iadd_n hx hb dX5_count_77 ?_
          refine lv_istore (lv' := [(4, .int (nI ((cntN (mMdQ u.2.2) (i_1)) + 0))), (3, .int (nI ((cntN (mStQ u.2.2 3) (i_1)) + 0))), (2, .int (nI ((cntN (mStQ u.2.2 2) (i_1)) + 0))), (0, .ref (a0)), (1, .int (v1)), (5, .int (nI (cntN (mIsSafe u.2.2) (i_1)))), (6, .int (nI (i_1)))]) hx hb dX5_count_78 hl (by decide) rfl (fun ls hl => ?_)
          refine lv_iload hx hb dX5_count_80 (lv_at hl 5 rfl) ?_
          refine lv_aload_n hx hb dX5_count_82 rfl (lv_at hl 3 rfl) ?_
          refine lv_iload hx hb dX5_count_83 (lv_at hl 6 rfl) ?_
          refine w_ci (r_V (As := [.int (nI (i_1))]) (rest := [.int (nI (cntN (mIsSafe u.2.2) (i_1)))]) hF hB (c_X5_isSafe l env s0 X u (a0) (0) (ha0) (i_1) hM hV hNm (by omega)) cv_X5_isSafe tw_4_75 ⟨rfl, rfl, by decide, by decide⟩ (hB.recv ha0 (cn_20 env u (0)) rfl) rfl hl.1 rfl (lv_room (Nat.le_of_ble_eq_true rfl)) dX5_count_85 ⟨Nat.le_of_ble_eq_true rfl, Nat.le_of_ble_eq_true rfl⟩) hB (fun r_28 u_30 H locs hq_29 hB => ?_)
          obtain ⟨rfl, rfl⟩ := hq_29
          refine w_ifeq_b (tgt := 95) hx hb dX5_count_88 (by decide) (fun c_31 => ?_) (fun c_31 => ?_)
          · refine lv_iconst (v := nI 0) hx hb dX5_count_95 (by decide) ?_
            refine w_iadd_n hx hb dX5_count_96 ?_
            refine lv_istore (lv' := [(5, .int (nI ((cntN (mIsSafe u.2.2) (i_1)) + 0))), (4, .int (nI ((cntN (mMdQ u.2.2) (i_1)) + 0))), (3, .int (nI ((cntN (mStQ u.2.2 3) (i_1)) + 0))), (2, .int (nI ((cntN (mStQ u.2.2 2) (i_1)) + 0))), (0, .ref (a0)), (1, .int (v1)), (6, .int (nI (i_1)))]) hx hb dX5_count_97 hl (by decide) rfl (fun ls hl => ?_)
            refine lv_iinc (v := nI (i_1 + 1)) (lv' := [(6, .int (nI (i_1 + 1))), (5, .int (nI ((cntN (mIsSafe u.2.2) (i_1)) + 0))), (4, .int (nI ((cntN (mMdQ u.2.2) (i_1)) + 0))), (3, .int (nI ((cntN (mStQ u.2.2 3) (i_1)) + 0))), (2, .int (nI ((cntN (mStQ u.2.2 2) (i_1)) + 0))), (0, .ref (a0)), (1, .int (v1))]) hx hb dX5_count_99 hl (k := 6) rfl (nI_add _ _) (by decide) rfl (fun ls hl => ?_)
            refine lv_goto (tgt := 13) hx hb dX5_count_102 (by decide) ?_
            have ea_32 : cntN (mStQ u.2.2 2) (i_1 + 1) = (cntN (mStQ u.2.2 2) (i_1)) + 0 := by first | (simp [allN_s, anyN_s, cntN_s, sumL_s, Int64.add_assoc, mStQ, mMdQ, c_4, c_25, c_26, c_27, c_31] <;> omega) | grind [allN_s, anyN_s, cntN_s, sumL_s, Int64.add_assoc, mStQ, mMdQ]
            have ea_33 : cntN (mStQ u.2.2 3) (i_1 + 1) = (cntN (mStQ u.2.2 3) (i_1)) + 0 := by first | (simp [allN_s, anyN_s, cntN_s, sumL_s, Int64.add_assoc, mStQ, mMdQ, c_4, c_25, c_26, c_27, c_31] <;> omega) | grind [allN_s, anyN_s, cntN_s, sumL_s, Int64.add_assoc, mStQ, mMdQ]
            have ea_34 : cntN (mMdQ u.2.2) (i_1 + 1) = (cntN (mMdQ u.2.2) (i_1)) + 0 := by first | (simp [allN_s, anyN_s, cntN_s, sumL_s, Int64.add_assoc, mStQ, mMdQ, c_4, c_25, c_26, c_27, c_31] <;> omega) | grind [allN_s, anyN_s, cntN_s, sumL_s, Int64.add_assoc, mStQ, mMdQ]
            have ea_35 : cntN (mIsSafe u.2.2) (i_1 + 1) = (cntN (mIsSafe u.2.2) (i_1)) + 0 := by first | (simp [allN_s, anyN_s, cntN_s, sumL_s, Int64.add_assoc, mStQ, mMdQ, c_4, c_25, c_26, c_27, c_31] <;> omega) | grind [allN_s, anyN_s, cntN_s, sumL_s, Int64.add_assoc, mStQ, mMdQ]
            exact ih13 (H, locs, ls) (by omega) ⟨trivial, hB, by show lv_has ls 8 [(0, .ref (a0)), (1, .int (v1)), (2, .int (nI (cntN (mStQ u.2.2 2) (i_1 + 1)))), (3, .int (nI (cntN (mStQ u.2.2 3) (i_1 + 1)))), (4, .int (nI (cntN (mMdQ u.2.2) (i_1 + 1)))), (5, .int (nI (cntN (mIsSafe u.2.2) (i_1 + 1)))), (6, .int (nI (i_1 + 1)))]; rw [ea_32, ea_33, ea_34, ea_35]; exact lv_sub hl [5, 6, 4, 3, 2, 1, 0] rfl⟩
          · refine lv_iconst (v := nI 1) hx hb dX5_count_91 (by decide) ?_
            refine lv_goto (tgt := 96) hx hb dX5_count_92 (by decide) ?_
            refine w_iadd_n hx hb dX5_count_96 ?_
            refine lv_istore (lv' := [(5, .int (nI ((cntN (mIsSafe u.2.2) (i_1)) + 1))), (4, .int (nI ((cntN (mMdQ u.2.2) (i_1)) + 0))), (3, .int (nI ((cntN (mStQ u.2.2 3) (i_1)) + 0))), (2, .int (nI ((cntN (mStQ u.2.2 2) (i_1)) + 0))), (0, .ref (a0)), (1, .int (v1)), (6, .int (nI (i_1)))]) hx hb dX5_count_97 hl (by decide) rfl (fun ls hl => ?_)
            refine lv_iinc (v := nI (i_1 + 1)) (lv' := [(6, .int (nI (i_1 + 1))), (5, .int (nI ((cntN (mIsSafe u.2.2) (i_1)) + 1))), (4, .int (nI ((cntN (mMdQ u.2.2) (i_1)) + 0))), (3, .int (nI ((cntN (mStQ u.2.2 3) (i_1)) + 0))), (2, .int (nI ((cntN (mStQ u.2.2 2) (i_1)) + 0))), (0, .ref (a0)), (1, .int (v1))]) hx hb dX5_count_99 hl (k := 6) rfl (nI_add _ _) (by decide) rfl (fun ls hl => ?_)
            refine lv_goto (tgt := 13) hx hb dX5_count_102 (by decide) ?_
            have ea_36 : cntN (mStQ u.2.2 2) (i_1 + 1) = (cntN (mStQ u.2.2 2) (i_1)) + 0 := by first | (simp [allN_s, anyN_s, cntN_s, sumL_s, Int64.add_assoc, mStQ, mMdQ, c_4, c_25, c_26, c_27, c_31] <;> omega) | grind [allN_s, anyN_s, cntN_s, sumL_s, Int64.add_assoc, mStQ, mMdQ]
            have ea_37 : cntN (mStQ u.2.2 3) (i_1 + 1) = (cntN (mStQ u.2.2 3) (i_1)) + 0 := by first | (simp [allN_s, anyN_s, cntN_s, sumL_s, Int64.add_assoc, mStQ, mMdQ, c_4, c_25, c_26, c_27, c_31] <;> omega) | grind [allN_s, anyN_s, cntN_s, sumL_s, Int64.add_assoc, mStQ, mMdQ]
            have ea_38 : cntN (mMdQ u.2.2) (i_1 + 1) = (cntN (mMdQ u.2.2) (i_1)) + 0 := by first | (simp [allN_s, anyN_s, cntN_s, sumL_s, Int64.add_assoc, mStQ, mMdQ, c_4, c_25, c_26, c_27, c_31] <;> omega) | grind [allN_s, anyN_s, cntN_s, sumL_s, Int64.add_assoc, mStQ, mMdQ]
            have ea_39 : cntN (mIsSafe u.2.2) (i_1 + 1) = (cntN (mIsSafe u.2.2) (i_1)) + 1 := by first | (simp [allN_s, anyN_s, cntN_s, sumL_s, Int64.add_assoc, mStQ, mMdQ, c_4, c_25, c_26, c_27, c_31] <;> omega) | grind [allN_s, anyN_s, cntN_s, sumL_s, Int64.add_assoc, mStQ, mMdQ]
            exact ih13 (H, locs, ls) (by omega) ⟨trivial, hB, by show lv_has ls 8 [(0, .ref (a0)), (1, .int (v1)), (2, .int (nI (cntN (mStQ u.2.2 2) (i_1 + 1)))), (3, .int (nI (cntN (mStQ u.2.2 3) (i_1 + 1)))), (4, .int (nI (cntN (mMdQ u.2.2) (i_1 + 1)))), (5, .int (nI (cntN (mIsSafe u.2.2) (i_1 + 1)))), (6, .int (nI (i_1 + 1)))]; rw [ea_36, ea_37, ea_38, ea_39]; exact lv_sub hl [5, 6, 4, 3, 2, 1, 0] rfl⟩
        · refine lv_iconst (v := nI 1) hx hb dX5_count_72 (by decide) ?_
          refine lv_goto (tgt := 77) hx hb dX5_count_73 (by decide) ?_
          refine w_iadd_n hx hb dX5_count_77 ?_
          refine lv_istore (lv' := [(4, .int (nI ((cntN (mMdQ u.2.2) (i_1)) + 1))), (3, .int (nI ((cntN (mStQ u.2.2 3) (i_1)) + 0))), (2, .int (nI ((cntN (mStQ u.2.2 2) (i_1)) + 0))), (0, .ref (a0)), (1, .int (v1)), (5, .int (nI (cntN (mIsSafe u.2.2) (i_1)))), (6, .int (nI (i_1)))]) hx hb dX5_count_78 hl (by decide) rfl (fun ls hl => ?_)
          refine lv_iload hx hb dX5_count_80 (lv_at hl 5 rfl) ?_
          refine lv_aload_n hx hb dX5_count_82 rfl (lv_at hl 3 rfl) ?_
          refine lv_iload hx hb dX5_count_83 (lv_at hl 6 rfl) ?_
          refine w_ci (r_V (As := [.int (nI (i_1))]) (rest := [.int (nI (cntN (mIsSafe u.2.2) (i_1)))]) hF hB (c_X5_isSafe l env s0 X u (a0) (0) (ha0) (i_1) hM hV hNm (by omega)) cv_X5_isSafe tw_4_75 ⟨rfl, rfl, by decide, by decide⟩ (hB.recv ha0 (cn_20 env u (0)) rfl) rfl hl.1 rfl (lv_room (Nat.le_of_ble_eq_true rfl)) dX5_count_85 ⟨Nat.le_of_ble_eq_true rfl, Nat.le_of_ble_eq_true rfl⟩) hB (fun r_40 u_42 H locs hq_41 hB => ?_)
          obtain ⟨rfl, rfl⟩ := hq_41
          refine w_ifeq_b (tgt := 95) hx hb dX5_count_88 (by decide) (fun c_43 => ?_) (fun c_43 => ?_)
          · refine lv_iconst (v := nI 0) hx hb dX5_count_95 (by decide) ?_
            refine w_iadd_n hx hb dX5_count_96 ?_
            refine lv_istore (lv' := [(5, .int (nI ((cntN (mIsSafe u.2.2) (i_1)) + 0))), (4, .int (nI ((cntN (mMdQ u.2.2) (i_1)) + 1))), (3, .int (nI ((cntN (mStQ u.2.2 3) (i_1)) + 0))), (2, .int (nI ((cntN (mStQ u.2.2 2) (i_1)) + 0))), (0, .ref (a0)), (1, .int (v1)), (6, .int (nI (i_1)))]) hx hb dX5_count_97 hl (by decide) rfl (fun ls hl => ?_)
            refine lv_iinc (v := nI (i_1 + 1)) (lv' := [(6, .int (nI (i_1 + 1))), (5, .int (nI ((cntN (mIsSafe u.2.2) (i_1)) + 0))), (4, .int (nI ((cntN (mMdQ u.2.2) (i_1)) + 1))), (3, .int (nI ((cntN (mStQ u.2.2 3) (i_1)) + 0))), (2, .int (nI ((cntN (mStQ u.2.2 2) (i_1)) + 0))), (0, .ref (a0)), (1, .int (v1))]) hx hb dX5_count_99 hl (k := 6) rfl (nI_add _ _) (by decide) rfl (fun ls hl => ?_)
            refine lv_goto (tgt := 13) hx hb dX5_count_102 (by decide) ?_
            have ea_44 : cntN (mStQ u.2.2 2) (i_1 + 1) = (cntN (mStQ u.2.2 2) (i_1)) + 0 := by first | (simp [allN_s, anyN_s, cntN_s, sumL_s, Int64.add_assoc, mStQ, mMdQ, c_4, c_25, c_26, c_27, c_43] <;> omega) | grind [allN_s, anyN_s, cntN_s, sumL_s, Int64.add_assoc, mStQ, mMdQ]
            have ea_45 : cntN (mStQ u.2.2 3) (i_1 + 1) = (cntN (mStQ u.2.2 3) (i_1)) + 0 := by first | (simp [allN_s, anyN_s, cntN_s, sumL_s, Int64.add_assoc, mStQ, mMdQ, c_4, c_25, c_26, c_27, c_43] <;> omega) | grind [allN_s, anyN_s, cntN_s, sumL_s, Int64.add_assoc, mStQ, mMdQ]
            have ea_46 : cntN (mMdQ u.2.2) (i_1 + 1) = (cntN (mMdQ u.2.2) (i_1)) + 1 := by first | (simp [allN_s, anyN_s, cntN_s, sumL_s, Int64.add_assoc, mStQ, mMdQ, c_4, c_25, c_26, c_27, c_43] <;> omega) | grind [allN_s, anyN_s, cntN_s, sumL_s, Int64.add_assoc, mStQ, mMdQ]
            have ea_47 : cntN (mIsSafe u.2.2) (i_1 + 1) = (cntN (mIsSafe u.2.2) (i_1)) + 0 := by first | (simp [allN_s, anyN_s, cntN_s, sumL_s, Int64.add_assoc, mStQ, mMdQ, c_4, c_25, c_26, c_27, c_43] <;> omega) | grind [allN_s, anyN_s, cntN_s, sumL_s, Int64.add_assoc, mStQ, mMdQ]
            exact ih13 (H, locs, ls) (by omega) ⟨trivial, hB, by show lv_has ls 8 [(0, .ref (a0)), (1, .int (v1)), (2, .int (nI (cntN (mStQ u.2.2 2) (i_1 + 1)))), (3, .int (nI (cntN (mStQ u.2.2 3) (i_1 + 1)))), (4, .int (nI (cntN (mMdQ u.2.2) (i_1 + 1)))), (5, .int (nI (cntN (mIsSafe u.2.2) (i_1 + 1)))), (6, .int (nI (i_1 + 1)))]; rw [ea_44, ea_45, ea_46, ea_47]; exact lv_sub hl [5, 6, 4, 3, 2, 1, 0] rfl⟩
          · refine lv_iconst (v := nI 1) hx hb dX5_count_91 (by decide) ?_
            refine lv_goto (tgt := 96) hx hb dX5_count_92 (by decide) ?_
            refine w_iadd_n hx hb dX5_count_96 ?_
            refine lv_istore (lv' := [(5, .int (nI ((cntN (mIsSafe u.2.2) (i_1)) + 1))), (4, .int (nI ((cntN (mMdQ u.2.2) (i_1)) + 1))), (3, .int (nI ((cntN (mStQ u.2.2 3) (i_1)) + 0))), (2, .int (nI ((cntN (mStQ u.2.2 2) (i_1)) + 0))), (0, .ref (a0)), (1, .int (v1)), (6, .int (nI (i_1)))]) hx hb dX5_count_97 hl (by decide) rfl (fun ls hl => ?_)
            refine lv_iinc (v := nI (i_1 + 1)) (lv' := [(6, .int (nI (i_1 + 1))), (5, .int (nI ((cntN (mIsSafe u.2.2) (i_1)) + 1))), (4, .int (nI ((cntN (mMdQ u.2.2) (i_1)) + 1))), (3, .int (nI ((cntN (mStQ u.2.2 3) (i_1)) + 0))), (2, .int (nI ((cntN (mStQ u.2.2 2) (i_1)) + 0))), (0, .ref (a0)), (1, .int (v1))]) hx hb dX5_count_99 hl (k := 6) rfl (nI_add _ _) (by decide) rfl (fun ls hl => ?_)
            refine lv_goto (tgt := 13) hx hb dX5_count_102 (by decide) ?_
            have ea_48 : cntN (mStQ u.2.2 2) (i_1 + 1) = (cntN (mStQ u.2.2 2) (i_1)) + 0 := by first | (simp [allN_s, anyN_s, cntN_s, sumL_s, Int64.add_assoc, mStQ, mMdQ, c_4, c_25, c_26, c_27, c_43] <;> omega) | grind [allN_s, anyN_s, cntN_s, sumL_s, Int64.add_assoc, mStQ, mMdQ]
            have ea_49 : cntN (mStQ u.2.2 3) (i_1 + 1) = (cntN (mStQ u.2.2 3) (i_1)) + 0 := by first | (simp [allN_s, anyN_s, cntN_s, sumL_s, Int64.add_assoc, mStQ, mMdQ, c_4, c_25, c_26, c_27, c_43] <;> omega) | grind [allN_s, anyN_s, cntN_s, sumL_s, Int64.add_assoc, mStQ, mMdQ]
            have ea_50 : cntN (mMdQ u.2.2) (i_1 + 1) = (cntN (mMdQ u.2.2) (i_1)) + 1 := by first | (simp [allN_s, anyN_s, cntN_s, sumL_s, Int64.add_assoc, mStQ, mMdQ, c_4, c_25, c_26, c_27, c_43] <;> omega) | grind [allN_s, anyN_s, cntN_s, sumL_s, Int64.add_assoc, mStQ, mMdQ]
            have ea_51 : cntN (mIsSafe u.2.2) (i_1 + 1) = (cntN (mIsSafe u.2.2) (i_1)) + 1 := by first | (simp [allN_s, anyN_s, cntN_s, sumL_s, Int64.add_assoc, mStQ, mMdQ, c_4, c_25, c_26, c_27, c_43] <;> omega) | grind [allN_s, anyN_s, cntN_s, sumL_s, Int64.add_assoc, mStQ, mMdQ]
            exact ih13 (H, locs, ls) (by omega) ⟨trivial, hB, by show lv_has ls 8 [(0, .ref (a0)), (1, .int (v1)), (2, .int (nI (cntN (mStQ u.2.2 2) (i_1 + 1)))), (3, .int (nI (cntN (mStQ u.2.2 3) (i_1 + 1)))), (4, .int (nI (cntN (mMdQ u.2.2) (i_1 + 1)))), (5, .int (nI (cntN (mIsSafe u.2.2) (i_1 + 1)))), (6, .int (nI (i_1 + 1)))]; rw [ea_48, ea_49, ea_50, ea_51]; exact lv_sub hl [5, 6, 4, 3, 2, 1, 0] rfl⟩
      · refine lv_iconst (v := nI 1) hx hb dX5_count_53 (by decide) ?_
        refine lv_goto (tgt := 58) hx hb dX5_count_54 (by decide) ?_
        refine w_iadd_n hx hb dX5_count_58 ?_
        refine lv_istore_n (lv' := [(3, .int (nI ((cntN (mStQ u.2.2 3) (i_1)) + 1))), (2, .int (nI ((cntN (mStQ u.2.2 2) (i_1)) + 0))), (0, .ref (a0)), (1, .int (v1)), (4, .int (nI (cntN (mMdQ u.2.2) (i_1)))), (5, .int (nI (cntN (mIsSafe u.2.2) (i_1)))), (6, .int (nI (i_1)))]) hx hb dX5_count_59 rfl hl (by decide) rfl (fun ls hl => ?_)
        refine lv_iload hx hb dX5_count_60 (lv_at hl 4 rfl) ?_
        refine lv_aload_n hx hb dX5_count_62 rfl (lv_at hl 2 rfl) ?_
        refine w_get (v := .ref (sA u 30 0)) (fk := 9) hF hB ha0 (cn_20 env u (0)) rfl in_X5 (by decide) tw_3_104 rfl rfl dX5_count_63 ?_
        refine lv_iload hx hb dX5_count_66 (lv_at hl 6 rfl) ?_
        refine w_iald (v := .int (nI (gN u.2.2 59 (0) (i_1)))) hF hB ⟨hM 30 (by decide), rfl⟩ (cn_30 env u (0)) (by omega) rfl (by decide) dX5_count_68 ?_
        refine w_ifle_n (tgt := 76) (by have := hNm 59 (0) (i_1); omega) hx hb dX5_count_69 (by decide) (fun c_52 => ?_) (fun c_52 => ?_)
        · refine lv_iconst (v := nI 0) hx hb dX5_count_76 (by decide) ?_
          refine w_iadd_n hx hb dX5_count_77 ?_
          refine lv_istore (lv' := [(4, .int (nI ((cntN (mMdQ u.2.2) (i_1)) + 0))), (3, .int (nI ((cntN (mStQ u.2.2 3) (i_1)) + 1))), (2, .int (nI ((cntN (mStQ u.2.2 2) (i_1)) + 0))), (0, .ref (a0)), (1, .int (v1)), (5, .int (nI (cntN (mIsSafe u.2.2) (i_1)))), (6, .int (nI (i_1)))]) hx hb dX5_count_78 hl (by decide) rfl (fun ls hl => ?_)
          refine lv_iload hx hb dX5_count_80 (lv_at hl 5 rfl) ?_
          refine lv_aload_n hx hb dX5_count_82 rfl (lv_at hl 3 rfl) ?_
          refine lv_iload hx hb dX5_count_83 (lv_at hl 6 rfl) ?_
          refine w_ci (r_V (As := [.int (nI (i_1))]) (rest := [.int (nI (cntN (mIsSafe u.2.2) (i_1)))]) hF hB (c_X5_isSafe l env s0 X u (a0) (0) (ha0) (i_1) hM hV hNm (by omega)) cv_X5_isSafe tw_4_75 ⟨rfl, rfl, by decide, by decide⟩ (hB.recv ha0 (cn_20 env u (0)) rfl) rfl hl.1 rfl (lv_room (Nat.le_of_ble_eq_true rfl)) dX5_count_85 ⟨Nat.le_of_ble_eq_true rfl, Nat.le_of_ble_eq_true rfl⟩) hB (fun r_53 u_55 H locs hq_54 hB => ?_)
          obtain ⟨rfl, rfl⟩ := hq_54
          refine w_ifeq_b (tgt := 95) hx hb dX5_count_88 (by decide) (fun c_56 => ?_) (fun c_56 => ?_)
          · refine lv_iconst (v := nI 0) hx hb dX5_count_95 (by decide) ?_
            refine w_iadd_n hx hb dX5_count_96 ?_
            refine lv_istore (lv' := [(5, .int (nI ((cntN (mIsSafe u.2.2) (i_1)) + 0))), (4, .int (nI ((cntN (mMdQ u.2.2) (i_1)) + 0))), (3, .int (nI ((cntN (mStQ u.2.2 3) (i_1)) + 1))), (2, .int (nI ((cntN (mStQ u.2.2 2) (i_1)) + 0))), (0, .ref (a0)), (1, .int (v1)), (6, .int (nI (i_1)))]) hx hb dX5_count_97 hl (by decide) rfl (fun ls hl => ?_)
            refine lv_iinc (v := nI (i_1 + 1)) (lv' := [(6, .int (nI (i_1 + 1))), (5, .int (nI ((cntN (mIsSafe u.2.2) (i_1)) + 0))), (4, .int (nI ((cntN (mMdQ u.2.2) (i_1)) + 0))), (3, .int (nI ((cntN (mStQ u.2.2 3) (i_1)) + 1))), (2, .int (nI ((cntN (mStQ u.2.2 2) (i_1)) + 0))), (0, .ref (a0)), (1, .int (v1))]) hx hb dX5_count_99 hl (k := 6) rfl (nI_add _ _) (by decide) rfl (fun ls hl => ?_)
            refine lv_goto (tgt := 13) hx hb dX5_count_102 (by decide) ?_
            have ea_57 : cntN (mStQ u.2.2 2) (i_1 + 1) = (cntN (mStQ u.2.2 2) (i_1)) + 0 := by first | (simp [allN_s, anyN_s, cntN_s, sumL_s, Int64.add_assoc, mStQ, mMdQ, c_4, c_25, c_26, c_52, c_56] <;> omega) | grind [allN_s, anyN_s, cntN_s, sumL_s, Int64.add_assoc, mStQ, mMdQ]
            have ea_58 : cntN (mStQ u.2.2 3) (i_1 + 1) = (cntN (mStQ u.2.2 3) (i_1)) + 1 := by first | (simp [allN_s, anyN_s, cntN_s, sumL_s, Int64.add_assoc, mStQ, mMdQ, c_4, c_25, c_26, c_52, c_56] <;> omega) | grind [allN_s, anyN_s, cntN_s, sumL_s, Int64.add_assoc, mStQ, mMdQ]
            have ea_59 : cntN (mMdQ u.2.2) (i_1 + 1) = (cntN (mMdQ u.2.2) (i_1)) + 0 := by first | (simp [allN_s, anyN_s, cntN_s, sumL_s, Int64.add_assoc, mStQ, mMdQ, c_4, c_25, c_26, c_52, c_56] <;> omega) | grind [allN_s, anyN_s, cntN_s, sumL_s, Int64.add_assoc, mStQ, mMdQ]
            have ea_60 : cntN (mIsSafe u.2.2) (i_1 + 1) = (cntN (mIsSafe u.2.2) (i_1)) + 0 := by first | (simp [allN_s, anyN_s, cntN_s, sumL_s, Int64.add_assoc, mStQ, mMdQ, c_4, c_25, c_26, c_52, c_56] <;> omega) | grind [allN_s, anyN_s, cntN_s, sumL_s, Int64.add_assoc, mStQ, mMdQ]
            exact ih13 (H, locs, ls) (by omega) ⟨trivial, hB, by show lv_has ls 8 [(0, .ref (a0)), (1, .int (v1)), (2, .int (nI (cntN (mStQ u.2.2 2) (i_1 + 1)))), (3, .int (nI (cntN (mStQ u.2.2 3) (i_1 + 1)))), (4, .int (nI (cntN (mMdQ u.2.2) (i_1 + 1)))), (5, .int (nI (cntN (mIsSafe u.2.2) (i_1 + 1)))), (6, .int (nI (i_1 + 1)))]; rw [ea_57, ea_58, ea_59, ea_60]; exact lv_sub hl [5, 6, 4, 3, 2, 1, 0] rfl⟩
          · refine lv_iconst (v := nI 1) hx hb dX5_count_91 (by decide) ?_
            refine lv_goto (tgt := 96) hx hb dX5_count_92 (by decide) ?_
            refine w_iadd_n hx hb dX5_count_96 ?_
            refine lv_istore (lv' := [(5, .int (nI ((cntN (mIsSafe u.2.2) (i_1)) + 1))), (4, .int (nI ((cntN (mMdQ u.2.2) (i_1)) + 0))), (3, .int (nI ((cntN (mStQ u.2.2 3) (i_1)) + 1))), (2, .int (nI ((cntN (mStQ u.2.2 2) (i_1)) + 0))), (0, .ref (a0)), (1, .int (v1)), (6, .int (nI (i_1)))]) hx hb dX5_count_97 hl (by decide) rfl (fun ls hl => ?_)
            refine lv_iinc (v := nI (i_1 + 1)) (lv' := [(6, .int (nI (i_1 + 1))), (5, .int (nI ((cntN (mIsSafe u.2.2) (i_1)) + 1))), (4, .int (nI ((cntN (mMdQ u.2.2) (i_1)) + 0))), (3, .int (nI ((cntN (mStQ u.2.2 3) (i_1)) + 1))), (2, .int (nI ((cntN (mStQ u.2.2 2) (i_1)) + 0))), (0, .ref (a0)), (1, .int (v1))]) hx hb dX5_count_99 hl (k := 6) rfl (nI_add _ _) (by decide) rfl (fun ls hl => ?_)
            refine lv_goto (tgt := 13) hx hb dX5_count_102 (by decide) ?_
            have ea_61 : cntN (mStQ u.2.2 2) (i_1 + 1) = (cntN (mStQ u.2.2 2) (i_1)) + 0 := by first | (simp [allN_s, anyN_s, cntN_s, sumL_s, Int64.add_assoc, mStQ, mMdQ, c_4, c_25, c_26, c_52, c_56] <;> omega) | grind [allN_s, anyN_s, cntN_s, sumL_s, Int64.add_assoc, mStQ, mMdQ]
            have ea_62 : cntN (mStQ u.2.2 3) (i_1 + 1) = (cntN (mStQ u.2.2 3) (i_1)) + 1 := by first | (simp [allN_s, anyN_s, cntN_s, sumL_s, Int64.add_assoc, mStQ, mMdQ, c_4, c_25, c_26, c_52, c_56] <;> omega) | grind [allN_s, anyN_s, cntN_s, sumL_s, Int64.add_assoc, mStQ, mMdQ]
            have ea_63 : cntN (mMdQ u.2.2) (i_1 + 1) = (cntN (mMdQ u.2.2) (i_1)) + 0 := by first | (simp [allN_s, anyN_s, cntN_s, sumL_s, Int64.add_assoc, mStQ, mMdQ, c_4, c_25, c_26, c_52, c_56] <;> omega) | grind [allN_s, anyN_s, cntN_s, sumL_s, Int64.add_assoc, mStQ, mMdQ]
            have ea_64 : cntN (mIsSafe u.2.2) (i_1 + 1) = (cntN (mIsSafe u.2.2) (i_1)) + 1 := by first | (simp [allN_s, anyN_s, cntN_s, sumL_s, Int64.add_assoc, mStQ, mMdQ, c_4, c_25, c_26, c_52, c_56] <;> omega) | grind [allN_s, anyN_s, cntN_s, sumL_s, Int64.add_assoc, mStQ, mMdQ]
            exact ih13 (H, locs, ls) (by omega) ⟨trivial, hB, by show lv_has ls 8 [(0, .ref (a0)), (1, .int (v1)), (2, .int (nI (cntN (mStQ u.2.2 2) (i_1 + 1)))), (3, .int (nI (cntN (mStQ u.2.2 3) (i_1 + 1)))), (4, .int (nI (cntN (mMdQ u.2.2) (i_1 + 1)))), (5, .int (nI (cntN (mIsSafe u.2.2) (i_1 + 1)))), (6, .int (nI (i_1 + 1)))]; rw [ea_61, ea_62, ea_63, ea_64]; exact lv_sub hl [5, 6, 4, 3, 2, 1, 0] rfl⟩
        · refine lv_iconst (v := nI 1) hx hb dX5_count_72 (by decide) ?_
          refine lv_goto (tgt := 77) hx hb dX5_count_73 (by decide) ?_
          refine w_iadd_n hx hb dX5_count_77 ?_
          refine lv_istore (lv' := [(4, .int (nI ((cntN (mMdQ u.2.2) (i_1)) + 1))), (3, .int (nI ((cntN (mStQ u.2.2 3) (i_1)) + 1))), (2, .int (nI ((cntN (mStQ u.2.2 2) (i_1)) + 0))), (0, .ref (a0)), (1, .int (v1)), (5, .int (nI (cntN (mIsSafe u.2.2) (i_1)))), (6, .int (nI (i_1)))]) hx hb dX5_count_78 hl (by decide) rfl (fun ls hl => ?_)
          refine lv_iload hx hb dX5_count_80 (lv_at hl 5 rfl) ?_
          refine lv_aload_n hx hb dX5_count_82 rfl (lv_at hl 3 rfl) ?_
          refine lv_iload hx hb dX5_count_83 (lv_at hl 6 rfl) ?_
          refine w_ci (r_V (As := [.int (nI (i_1))]) (rest := [.int (nI (cntN (mIsSafe u.2.2) (i_1)))]) hF hB (c_X5_isSafe l env s0 X u (a0) (0) (ha0) (i_1) hM hV hNm (by omega)) cv_X5_isSafe tw_4_75 ⟨rfl, rfl, by decide, by decide⟩ (hB.recv ha0 (cn_20 env u (0)) rfl) rfl hl.1 rfl (lv_room (Nat.le_of_ble_eq_true rfl)) dX5_count_85 ⟨Nat.le_of_ble_eq_true rfl, Nat.le_of_ble_eq_true rfl⟩) hB (fun r_65 u_67 H locs hq_66 hB => ?_)
          obtain ⟨rfl, rfl⟩ := hq_66
          refine w_ifeq_b (tgt := 95) hx hb dX5_count_88 (by decide) (fun c_68 => ?_) (fun c_68 => ?_)
          · refine lv_iconst (v := nI 0) hx hb dX5_count_95 (by decide) ?_
            refine w_iadd_n hx hb dX5_count_96 ?_
            refine lv_istore (lv' := [(5, .int (nI ((cntN (mIsSafe u.2.2) (i_1)) + 0))), (4, .int (nI ((cntN (mMdQ u.2.2) (i_1)) + 1))), (3, .int (nI ((cntN (mStQ u.2.2 3) (i_1)) + 1))), (2, .int (nI ((cntN (mStQ u.2.2 2) (i_1)) + 0))), (0, .ref (a0)), (1, .int (v1)), (6, .int (nI (i_1)))]) hx hb dX5_count_97 hl (by decide) rfl (fun ls hl => ?_)
            refine lv_iinc (v := nI (i_1 + 1)) (lv' := [(6, .int (nI (i_1 + 1))), (5, .int (nI ((cntN (mIsSafe u.2.2) (i_1)) + 0))), (4, .int (nI ((cntN (mMdQ u.2.2) (i_1)) + 1))), (3, .int (nI ((cntN (mStQ u.2.2 3) (i_1)) + 1))), (2, .int (nI ((cntN (mStQ u.2.2 2) (i_1)) + 0))), (0, .ref (a0)), (1, .int (v1))]) hx hb dX5_count_99 hl (k := 6) rfl (nI_add _ _) (by decide) rfl (fun ls hl => ?_)
            refine lv_goto (tgt := 13) hx hb dX5_count_102 (by decide) ?_
            have ea_69 : cntN (mStQ u.2.2 2) (i_1 + 1) = (cntN (mStQ u.2.2 2) (i_1)) + 0 := by first | (simp [allN_s, anyN_s, cntN_s, sumL_s, Int64.add_assoc, mStQ, mMdQ, c_4, c_25, c_26, c_52, c_68] <;> omega) | grind [allN_s, anyN_s, cntN_s, sumL_s, Int64.add_assoc, mStQ, mMdQ]
            have ea_70 : cntN (mStQ u.2.2 3) (i_1 + 1) = (cntN (mStQ u.2.2 3) (i_1)) + 1 := by first | (simp [allN_s, anyN_s, cntN_s, sumL_s, Int64.add_assoc, mStQ, mMdQ, c_4, c_25, c_26, c_52, c_68] <;> omega) | grind [allN_s, anyN_s, cntN_s, sumL_s, Int64.add_assoc, mStQ, mMdQ]
            have ea_71 : cntN (mMdQ u.2.2) (i_1 + 1) = (cntN (mMdQ u.2.2) (i_1)) + 1 := by first | (simp [allN_s, anyN_s, cntN_s, sumL_s, Int64.add_assoc, mStQ, mMdQ, c_4, c_25, c_26, c_52, c_68] <;> omega) | grind [allN_s, anyN_s, cntN_s, sumL_s, Int64.add_assoc, mStQ, mMdQ]
            have ea_72 : cntN (mIsSafe u.2.2) (i_1 + 1) = (cntN (mIsSafe u.2.2) (i_1)) + 0 := by first | (simp [allN_s, anyN_s, cntN_s, sumL_s, Int64.add_assoc, mStQ, mMdQ, c_4, c_25, c_26, c_52, c_68] <;> omega) | grind [allN_s, anyN_s, cntN_s, sumL_s, Int64.add_assoc, mStQ, mMdQ]
            exact ih13 (H, locs, ls) (by omega) ⟨trivial, hB, by show lv_has ls 8 [(0, .ref (a0)), (1, .int (v1)), (2, .int (nI (cntN (mStQ u.2.2 2) (i_1 + 1)))), (3, .int (nI (cntN (mStQ u.2.2 3) (i_1 + 1)))), (4, .int (nI (cntN (mMdQ u.2.2) (i_1 + 1)))), (5, .int (nI (cntN (mIsSafe u.2.2) (i_1 + 1)))), (6, .int (nI (i_1 + 1)))]; rw [ea_69, ea_70, ea_71, ea_72]; exact lv_sub hl [5, 6, 4, 3, 2, 1, 0] rfl⟩
          · refine lv_iconst (v := nI 1) hx hb dX5_count_91 (by decide) ?_
            refine lv_goto (tgt := 96) hx hb dX5_count_92 (by decide) ?_
            refine w_iadd_n hx hb dX5_count_96 ?_
            refine lv_istore (lv' := [(5, .int (nI ((cntN (mIsSafe u.2.2) (i_1)) + 1))), (4, .int (nI ((cntN (mMdQ u.2.2) (i_1)) + 1))), (3, .int (nI ((cntN (mStQ u.2.2 3) (i_1)) + 1))), (2, .int (nI ((cntN (mStQ u.2.2 2) (i_1)) + 0))), (0, .ref (a0)), (1, .int (v1)), (6, .int (nI (i_1)))]) hx hb dX5_count_97 hl (by decide) rfl (fun ls hl => ?_)
            refine lv_iinc (v := nI (i_1 + 1)) (lv' := [(6, .int (nI (i_1 + 1))), (5, .int (nI ((cntN (mIsSafe u.2.2) (i_1)) + 1))), (4, .int (nI ((cntN (mMdQ u.2.2) (i_1)) + 1))), (3, .int (nI ((cntN (mStQ u.2.2 3) (i_1)) + 1))), (2, .int (nI ((cntN (mStQ u.2.2 2) (i_1)) + 0))), (0, .ref (a0)), (1, .int (v1))]) hx hb dX5_count_99 hl (k := 6) rfl (nI_add _ _) (by decide) rfl (fun ls hl => ?_)
            refine lv_goto (tgt := 13) hx hb dX5_count_102 (by decide) ?_
            have ea_73 : cntN (mStQ u.2.2 2) (i_1 + 1) = (cntN (mStQ u.2.2 2) (i_1)) + 0 := by first | (simp [allN_s, anyN_s, cntN_s, sumL_s, Int64.add_assoc, mStQ, mMdQ, c_4, c_25, c_26, c_52, c_68] <;> omega) | grind [allN_s, anyN_s, cntN_s, sumL_s, Int64.add_assoc, mStQ, mMdQ]
            have ea_74 : cntN (mStQ u.2.2 3) (i_1 + 1) = (cntN (mStQ u.2.2 3) (i_1)) + 1 := by first | (simp [allN_s, anyN_s, cntN_s, sumL_s, Int64.add_assoc, mStQ, mMdQ, c_4, c_25, c_26, c_52, c_68] <;> omega) | grind [allN_s, anyN_s, cntN_s, sumL_s, Int64.add_assoc, mStQ, mMdQ]
            have ea_75 : cntN (mMdQ u.2.2) (i_1 + 1) = (cntN (mMdQ u.2.2) (i_1)) + 1 := by first | (simp [allN_s, anyN_s, cntN_s, sumL_s, Int64.add_assoc, mStQ, mMdQ, c_4, c_25, c_26, c_52, c_68] <;> omega) | grind [allN_s, anyN_s, cntN_s, sumL_s, Int64.add_assoc, mStQ, mMdQ]
            have ea_76 : cntN (mIsSafe u.2.2) (i_1 + 1) = (cntN (mIsSafe u.2.2) (i_1)) + 1 := by first | (simp [allN_s, anyN_s, cntN_s, sumL_s, Int64.add_assoc, mStQ, mMdQ, c_4, c_25, c_26, c_52, c_68] <;> omega) | grind [allN_s, anyN_s, cntN_s, sumL_s, Int64.add_assoc, mStQ, mMdQ]
            exact ih13 (H, locs, ls) (by omega) ⟨trivial, hB, by show lv_has ls 8 [(0, .ref (a0)), (1, .int (v1)), (2, .int (nI (cntN (mStQ u.2.2 2) (i_1 + 1)))), (3, .int (nI (cntN (mStQ u.2.2 3) (i_1 + 1)))), (4, .int (nI (cntN (mMdQ u.2.2) (i_1 + 1)))), (5, .int (nI (cntN (mIsSafe u.2.2) (i_1 + 1)))), (6, .int (nI (i_1 + 1)))]; rw [ea_73, ea_74, ea_75, ea_76]; exact lv_sub hl [5, 6, 4, 3, 2, 1, 0] rfl⟩
    · refine lv_iconst (v := nI 1) hx hb dX5_count_34 (by decide) ?_
      refine lv_goto (tgt := 39) hx hb dX5_count_35 (by decide) ?_
      refine w_iadd_n hx hb dX5_count_39 ?_
      refine lv_istore_n (lv' := [(2, .int (nI ((cntN (mStQ u.2.2 2) (i_1)) + 1))), (0, .ref (a0)), (1, .int (v1)), (3, .int (nI (cntN (mStQ u.2.2 3) (i_1)))), (4, .int (nI (cntN (mMdQ u.2.2) (i_1)))), (5, .int (nI (cntN (mIsSafe u.2.2) (i_1)))), (6, .int (nI (i_1)))]) hx hb dX5_count_40 rfl hl (by decide) rfl (fun ls hl => ?_)
      refine lv_iload_n hx hb dX5_count_41 rfl (lv_at hl 3 rfl) ?_
      refine lv_aload_n hx hb dX5_count_42 rfl (lv_at hl 1 rfl) ?_
      refine w_get (v := .ref (sA u 28 0)) (fk := 7) hF hB ha0 (cn_20 env u (0)) rfl in_X5 (by decide) tw_3_102 rfl rfl dX5_count_43 ?_
      refine lv_iload hx hb dX5_count_46 (lv_at hl 6 rfl) ?_
      refine w_iald (v := .int (nI (gN u.2.2 57 (0) (i_1)))) hF hB ⟨hM 28 (by decide), rfl⟩ (cn_28 env u (0)) (by omega) rfl (by decide) dX5_count_48 ?_
      refine lv_iconst (v := nI 3) hx hb dX5_count_49 (by decide) ?_
      refine w_icne_n (tgt := 57) (by have := hNm 57 (0) (i_1); omega) (by decide) hx hb dX5_count_50 (by decide) (fun c_77 => ?_) (fun c_77 => ?_)
      · refine lv_iconst (v := nI 0) hx hb dX5_count_57 (by decide) ?_
        refine w_iadd_n hx hb dX5_count_58 ?_
        refine lv_istore_n (lv' := [(3, .int (nI ((cntN (mStQ u.2.2 3) (i_1)) + 0))), (2, .int (nI ((cntN (mStQ u.2.2 2) (i_1)) + 1))), (0, .ref (a0)), (1, .int (v1)), (4, .int (nI (cntN (mMdQ u.2.2) (i_1)))), (5, .int (nI (cntN (mIsSafe u.2.2) (i_1)))), (6, .int (nI (i_1)))]) hx hb dX5_count_59 rfl hl (by decide) rfl (fun ls hl => ?_)
        refine lv_iload hx hb dX5_count_60 (lv_at hl 4 rfl) ?_
        refine lv_aload_n hx hb dX5_count_62 rfl (lv_at hl 2 rfl) ?_
        refine w_get (v := .ref (sA u 30 0)) (fk := 9) hF hB ha0 (cn_20 env u (0)) rfl in_X5 (by decide) tw_3_104 rfl rfl dX5_count_63 ?_
        refine lv_iload hx hb dX5_count_66 (lv_at hl 6 rfl) ?_
        refine w_iald (v := .int (nI (gN u.2.2 59 (0) (i_1)))) hF hB ⟨hM 30 (by decide), rfl⟩ (cn_30 env u (0)) (by omega) rfl (by decide) dX5_count_68 ?_
        refine w_ifle_n (tgt := 76) (by have := hNm 59 (0) (i_1); omega) hx hb dX5_count_69 (by decide) (fun c_78 => ?_) (fun c_78 => ?_)
        · refine lv_iconst (v := nI 0) hx hb dX5_count_76 (by decide) ?_
          refine w_iadd_n hx hb dX5_count_77 ?_
          refine lv_istore (lv' := [(4, .int (nI ((cntN (mMdQ u.2.2) (i_1)) + 0))), (3, .int (nI ((cntN (mStQ u.2.2 3) (i_1)) + 0))), (2, .int (nI ((cntN (mStQ u.2.2 2) (i_1)) + 1))), (0, .ref (a0)), (1, .int (v1)), (5, .int (nI (cntN (mIsSafe u.2.2) (i_1)))), (6, .int (nI (i_1)))]) hx hb dX5_count_78 hl (by decide) rfl (fun ls hl => ?_)
          refine lv_iload hx hb dX5_count_80 (lv_at hl 5 rfl) ?_
          refine lv_aload_n hx hb dX5_count_82 rfl (lv_at hl 3 rfl) ?_
          refine lv_iload hx hb dX5_count_83 (lv_at hl 6 rfl) ?_
          refine w_ci (r_V (As := [.int (nI (i_1))]) (rest := [.int (nI (cntN (mIsSafe u.2.2) (i_1)))]) hF hB (c_X5_isSafe l env s0 X u (a0) (0) (ha0) (i_1) hM hV hNm (by omega)) cv_X5_isSafe tw_4_75 ⟨rfl, rfl, by decide, by decide⟩ (hB.recv ha0 (cn_20 env u (0)) rfl) rfl hl.1 rfl (lv_room (Nat.le_of_ble_eq_true rfl)) dX5_count_85 ⟨Nat.le_of_ble_eq_true rfl, Nat.le_of_ble_eq_true rfl⟩) hB (fun r_79 u_81 H locs hq_80 hB => ?_)
          obtain ⟨rfl, rfl⟩ := hq_80
          refine w_ifeq_b (tgt := 95) hx hb dX5_count_88 (by decide) (fun c_82 => ?_) (fun c_82 => ?_)
          · refine lv_iconst (v := nI 0) hx hb dX5_count_95 (by decide) ?_
            refine w_iadd_n hx hb dX5_count_96 ?_
            refine lv_istore (lv' := [(5, .int (nI ((cntN (mIsSafe u.2.2) (i_1)) + 0))), (4, .int (nI ((cntN (mMdQ u.2.2) (i_1)) + 0))), (3, .int (nI ((cntN (mStQ u.2.2 3) (i_1)) + 0))), (2, .int (nI ((cntN (mStQ u.2.2 2) (i_1)) + 1))), (0, .ref (a0)), (1, .int (v1)), (6, .int (nI (i_1)))]) hx hb dX5_count_97 hl (by decide) rfl (fun ls hl => ?_)
            refine lv_iinc (v := nI (i_1 + 1)) (lv' := [(6, .int (nI (i_1 + 1))), (5, .int (nI ((cntN (mIsSafe u.2.2) (i_1)) + 0))), (4, .int (nI ((cntN (mMdQ u.2.2) (i_1)) + 0))), (3, .int (nI ((cntN (mStQ u.2.2 3) (i_1)) + 0))), (2, .int (nI ((cntN (mStQ u.2.2 2) (i_1)) + 1))), (0, .ref (a0)), (1, .int (v1))]) hx hb dX5_count_99 hl (k := 6) rfl (nI_add _ _) (by decide) rfl (fun ls hl => ?_)
            refine lv_goto (tgt := 13) hx hb dX5_count_102 (by decide) ?_
            have ea_83 : cntN (mStQ u.2.2 2) (i_1 + 1) = (cntN (mStQ u.2.2 2) (i_1)) + 1 := by first | (simp [allN_s, anyN_s, cntN_s, sumL_s, Int64.add_assoc, mStQ, mMdQ, c_4, c_25, c_77, c_78, c_82] <;> omega) | grind [allN_s, anyN_s, cntN_s, sumL_s, Int64.add_assoc, mStQ, mMdQ]
            have ea_84 : cntN (mStQ u.2.2 3) (i_1 + 1) = (cntN (mStQ u.2.2 3) (i_1)) + 0 := by first | (simp [allN_s, anyN_s, cntN_s, sumL_s, Int64.add_assoc, mStQ, mMdQ, c_4, c_25, c_77, c_78, c_82] <;> omega) | grind [allN_s, anyN_s, cntN_s, sumL_s, Int64.add_assoc, mStQ, mMdQ]
            have ea_85 : cntN (mMdQ u.2.2) (i_1 + 1) = (cntN (mMdQ u.2.2) (i_1)) + 0 := by first | (simp [allN_s, anyN_s, cntN_s, sumL_s, Int64.add_assoc, mStQ, mMdQ, c_4, c_25, c_77, c_78, c_82] <;> omega) | grind [allN_s, anyN_s, cntN_s, sumL_s, Int64.add_assoc, mStQ, mMdQ]
            have ea_86 : cntN (mIsSafe u.2.2) (i_1 + 1) = (cntN (mIsSafe u.2.2) (i_1)) + 0 := by first | (simp [allN_s, anyN_s, cntN_s, sumL_s, Int64.add_assoc, mStQ, mMdQ, c_4, c_25, c_77, c_78, c_82] <;> omega) | grind [allN_s, anyN_s, cntN_s, sumL_s, Int64.add_assoc, mStQ, mMdQ]
            exact ih13 (H, locs, ls) (by omega) ⟨trivial, hB, by show lv_has ls 8 [(0, .ref (a0)), (1, .int (v1)), (2, .int (nI (cntN (mStQ u.2.2 2) (i_1 + 1)))), (3, .int (nI (cntN (mStQ u.2.2 3) (i_1 + 1)))), (4, .int (nI (cntN (mMdQ u.2.2) (i_1 + 1)))), (5, .int (nI (cntN (mIsSafe u.2.2) (i_1 + 1)))), (6, .int (nI (i_1 + 1)))]; rw [ea_83, ea_84, ea_85, ea_86]; exact lv_sub hl [5, 6, 4, 3, 2, 1, 0] rfl⟩
          · refine lv_iconst (v := nI 1) hx hb dX5_count_91 (by decide) ?_
            refine lv_goto (tgt := 96) hx hb dX5_count_92 (by decide) ?_
            refine w_iadd_n hx hb dX5_count_96 ?_
            refine lv_istore (lv' := [(5, .int (nI ((cntN (mIsSafe u.2.2) (i_1)) + 1))), (4, .int (nI ((cntN (mMdQ u.2.2) (i_1)) + 0))), (3, .int (nI ((cntN (mStQ u.2.2 3) (i_1)) + 0))), (2, .int (nI ((cntN (mStQ u.2.2 2) (i_1)) + 1))), (0, .ref (a0)), (1, .int (v1)), (6, .int (nI (i_1)))]) hx hb dX5_count_97 hl (by decide) rfl (fun ls hl => ?_)
            refine lv_iinc (v := nI (i_1 + 1)) (lv' := [(6, .int (nI (i_1 + 1))), (5, .int (nI ((cntN (mIsSafe u.2.2) (i_1)) + 1))), (4, .int (nI ((cntN (mMdQ u.2.2) (i_1)) + 0))), (3, .int (nI ((cntN (mStQ u.2.2 3) (i_1)) + 0))), (2, .int (nI ((cntN (mStQ u.2.2 2) (i_1)) + 1))), (0, .ref (a0)), (1, .int (v1))]) hx hb dX5_count_99 hl (k := 6) rfl (nI_add _ _) (by decide) rfl (fun ls hl => ?_)
            refine lv_goto (tgt := 13) hx hb dX5_count_102 (by decide) ?_
            have ea_87 : cntN (mStQ u.2.2 2) (i_1 + 1) = (cntN (mStQ u.2.2 2) (i_1)) + 1 := by first | (simp [allN_s, anyN_s, cntN_s, sumL_s, Int64.add_assoc, mStQ, mMdQ, c_4, c_25, c_77, c_78, c_82] <;> omega) | grind [allN_s, anyN_s, cntN_s, sumL_s, Int64.add_assoc, mStQ, mMdQ]
            have ea_88 : cntN (mStQ u.2.2 3) (i_1 + 1) = (cntN (mStQ u.2.2 3) (i_1)) + 0 := by first | (simp [allN_s, anyN_s, cntN_s, sumL_s, Int64.add_assoc, mStQ, mMdQ, c_4, c_25, c_77, c_78, c_82] <;> omega) | grind [allN_s, anyN_s, cntN_s, sumL_s, Int64.add_assoc, mStQ, mMdQ]
            have ea_89 : cntN (mMdQ u.2.2) (i_1 + 1) = (cntN (mMdQ u.2.2) (i_1)) + 0 := by first | (simp [allN_s, anyN_s, cntN_s, sumL_s, Int64.add_assoc, mStQ, mMdQ, c_4, c_25, c_77, c_78, c_82] <;> omega) | grind [allN_s, anyN_s, cntN_s, sumL_s, Int64.add_assoc, mStQ, mMdQ]
            have ea_90 : cntN (mIsSafe u.2.2) (i_1 + 1) = (cntN (mIsSafe u.2.2) (i_1)) + 1 := by first | (simp [allN_s, anyN_s, cntN_s, sumL_s, Int64.add_assoc, mStQ, mMdQ, c_4, c_25, c_77, c_78, c_82] <;> omega) | grind [allN_s, anyN_s, cntN_s, sumL_s, Int64.add_assoc, mStQ, mMdQ]
            exact ih13 (H, locs, ls) (by omega) ⟨trivial, hB, by show lv_has ls 8 [(0, .ref (a0)), (1, .int (v1)), (2, .int (nI (cntN (mStQ u.2.2 2) (i_1 + 1)))), (3, .int (nI (cntN (mStQ u.2.2 3) (i_1 + 1)))), (4, .int (nI (cntN (mMdQ u.2.2) (i_1 + 1)))), (5, .int (nI (cntN (mIsSafe u.2.2) (i_1 + 1)))), (6, .int (nI (i_1 + 1)))]; rw [ea_87, ea_88, ea_89, ea_90]; exact lv_sub hl [5, 6, 4, 3, 2, 1, 0] rfl⟩
        · refine lv_iconst (v := nI 1) hx hb dX5_count_72 (by decide) ?_
          refine lv_goto (tgt := 77) hx hb dX5_count_73 (by decide) ?_
          refine w_iadd_n hx hb dX5_count_77 ?_
          refine lv_istore (lv' := [(4, .int (nI ((cntN (mMdQ u.2.2) (i_1)) + 1))), (3, .int (nI ((cntN (mStQ u.2.2 3) (i_1)) + 0))), (2, .int (nI ((cntN (mStQ u.2.2 2) (i_1)) + 1))), (0, .ref (a0)), (1, .int (v1)), (5, .int (nI (cntN (mIsSafe u.2.2) (i_1)))), (6, .int (nI (i_1)))]) hx hb dX5_count_78 hl (by decide) rfl (fun ls hl => ?_)
          refine lv_iload hx hb dX5_count_80 (lv_at hl 5 rfl) ?_
          refine lv_aload_n hx hb dX5_count_82 rfl (lv_at hl 3 rfl) ?_
          refine lv_iload hx hb dX5_count_83 (lv_at hl 6 rfl) ?_
          refine w_ci (r_V (As := [.int (nI (i_1))]) (rest := [.int (nI (cntN (mIsSafe u.2.2) (i_1)))]) hF hB (c_X5_isSafe l env s0 X u (a0) (0) (ha0) (i_1) hM hV hNm (by omega)) cv_X5_isSafe tw_4_75 ⟨rfl, rfl, by decide, by decide⟩ (hB.recv ha0 (cn_20 env u (0)) rfl) rfl hl.1 rfl (lv_room (Nat.le_of_ble_eq_true rfl)) dX5_count_85 ⟨Nat.le_of_ble_eq_true rfl, Nat.le_of_ble_eq_true rfl⟩) hB (fun r_91 u_93 H locs hq_92 hB => ?_)
          obtain ⟨rfl, rfl⟩ := hq_92
          refine w_ifeq_b (tgt := 95) hx hb dX5_count_88 (by decide) (fun c_94 => ?_) (fun c_94 => ?_)
          · refine lv_iconst (v := nI 0) hx hb dX5_count_95 (by decide) ?_
            refine w_iadd_n hx hb dX5_count_96 ?_
            refine lv_istore (lv' := [(5, .int (nI ((cntN (mIsSafe u.2.2) (i_1)) + 0))), (4, .int (nI ((cntN (mMdQ u.2.2) (i_1)) + 1))), (3, .int (nI ((cntN (mStQ u.2.2 3) (i_1)) + 0))), (2, .int (nI ((cntN (mStQ u.2.2 2) (i_1)) + 1))), (0, .ref (a0)), (1, .int (v1)), (6, .int (nI (i_1)))]) hx hb dX5_count_97 hl (by decide) rfl (fun ls hl => ?_)
            refine lv_iinc (v := nI (i_1 + 1)) (lv' := [(6, .int (nI (i_1 + 1))), (5, .int (nI ((cntN (mIsSafe u.2.2) (i_1)) + 0))), (4, .int (nI ((cntN (mMdQ u.2.2) (i_1)) + 1))), (3, .int (nI ((cntN (mStQ u.2.2 3) (i_1)) + 0))), (2, .int (nI ((cntN (mStQ u.2.2 2) (i_1)) + 1))), (0, .ref (a0)), (1, .int (v1))]) hx hb dX5_count_99 hl (k := 6) rfl (nI_add _ _) (by decide) rfl (fun ls hl => ?_)
            refine lv_goto (tgt := 13) hx hb dX5_count_102 (by decide) ?_
            have ea_95 : cntN (mStQ u.2.2 2) (i_1 + 1) = (cntN (mStQ u.2.2 2) (i_1)) + 1 := by first | (simp [allN_s, anyN_s, cntN_s, sumL_s, Int64.add_assoc, mStQ, mMdQ, c_4, c_25, c_77, c_78, c_94] <;> omega) | grind [allN_s, anyN_s, cntN_s, sumL_s, Int64.add_assoc, mStQ, mMdQ]
            have ea_96 : cntN (mStQ u.2.2 3) (i_1 + 1) = (cntN (mStQ u.2.2 3) (i_1)) + 0 := by first | (simp [allN_s, anyN_s, cntN_s, sumL_s, Int64.add_assoc, mStQ, mMdQ, c_4, c_25, c_77, c_78, c_94] <;> omega) | grind [allN_s, anyN_s, cntN_s, sumL_s, Int64.add_assoc, mStQ, mMdQ]
            have ea_97 : cntN (mMdQ u.2.2) (i_1 + 1) = (cntN (mMdQ u.2.2) (i_1)) + 1 := by first | (simp [allN_s, anyN_s, cntN_s, sumL_s, Int64.add_assoc, mStQ, mMdQ, c_4, c_25, c_77, c_78, c_94] <;> omega) | grind [allN_s, anyN_s, cntN_s, sumL_s, Int64.add_assoc, mStQ, mMdQ]
            have ea_98 : cntN (mIsSafe u.2.2) (i_1 + 1) = (cntN (mIsSafe u.2.2) (i_1)) + 0 := by first | (simp [allN_s, anyN_s, cntN_s, sumL_s, Int64.add_assoc, mStQ, mMdQ, c_4, c_25, c_77, c_78, c_94] <;> omega) | grind [allN_s, anyN_s, cntN_s, sumL_s, Int64.add_assoc, mStQ, mMdQ]
            exact ih13 (H, locs, ls) (by omega) ⟨trivial, hB, by show lv_has ls 8 [(0, .ref (a0)), (1, .int (v1)), (2, .int (nI (cntN (mStQ u.2.2 2) (i_1 + 1)))), (3, .int (nI (cntN (mStQ u.2.2 3) (i_1 + 1)))), (4, .int (nI (cntN (mMdQ u.2.2) (i_1 + 1)))), (5, .int (nI (cntN (mIsSafe u.2.2) (i_1 + 1)))), (6, .int (nI (i_1 + 1)))]; rw [ea_95, ea_96, ea_97, ea_98]; exact lv_sub hl [5, 6, 4, 3, 2, 1, 0] rfl⟩
          · refine lv_iconst (v := nI 1) hx hb dX5_count_91 (by decide) ?_
            refine lv_goto (tgt := 96) hx hb dX5_count_92 (by decide) ?_
            refine w_iadd_n hx hb dX5_count_96 ?_
            refine lv_istore (lv' := [(5, .int (nI ((cntN (mIsSafe u.2.2) (i_1)) + 1))), (4, .int (nI ((cntN (mMdQ u.2.2) (i_1)) + 1))), (3, .int (nI ((cntN (mStQ u.2.2 3) (i_1)) + 0))), (2, .int (nI ((cntN (mStQ u.2.2 2) (i_1)) + 1))), (0, .ref (a0)), (1, .int (v1)), (6, .int (nI (i_1)))]) hx hb dX5_count_97 hl (by decide) rfl (fun ls hl => ?_)
            refine lv_iinc (v := nI (i_1 + 1)) (lv' := [(6, .int (nI (i_1 + 1))), (5, .int (nI ((cntN (mIsSafe u.2.2) (i_1)) + 1))), (4, .int (nI ((cntN (mMdQ u.2.2) (i_1)) + 1))), (3, .int (nI ((cntN (mStQ u.2.2 3) (i_1)) + 0))), (2, .int (nI ((cntN (mStQ u.2.2 2) (i_1)) + 1))), (0, .ref (a0)), (1, .int (v1))]) hx hb dX5_count_99 hl (k := 6) rfl (nI_add _ _) (by decide) rfl (fun ls hl => ?_)
            refine lv_goto (tgt := 13) hx hb dX5_count_102 (by decide) ?_
            have ea_99 : cntN (mStQ u.2.2 2) (i_1 + 1) = (cntN (mStQ u.2.2 2) (i_1)) + 1 := by first | (simp [allN_s, anyN_s, cntN_s, sumL_s, Int64.add_assoc, mStQ, mMdQ, c_4, c_25, c_77, c_78, c_94] <;> omega) | grind [allN_s, anyN_s, cntN_s, sumL_s, Int64.add_assoc, mStQ, mMdQ]
            have ea_100 : cntN (mStQ u.2.2 3) (i_1 + 1) = (cntN (mStQ u.2.2 3) (i_1)) + 0 := by first | (simp [allN_s, anyN_s, cntN_s, sumL_s, Int64.add_assoc, mStQ, mMdQ, c_4, c_25, c_77, c_78, c_94] <;> omega) | grind [allN_s, anyN_s, cntN_s, sumL_s, Int64.add_assoc, mStQ, mMdQ]
            have ea_101 : cntN (mMdQ u.2.2) (i_1 + 1) = (cntN (mMdQ u.2.2) (i_1)) + 1 := by first | (simp [allN_s, anyN_s, cntN_s, sumL_s, Int64.add_assoc, mStQ, mMdQ, c_4, c_25, c_77, c_78, c_94] <;> omega) | grind [allN_s, anyN_s, cntN_s, sumL_s, Int64.add_assoc, mStQ, mMdQ]
            have ea_102 : cntN (mIsSafe u.2.2) (i_1 + 1) = (cntN (mIsSafe u.2.2) (i_1)) + 1 := by first | (simp [allN_s, anyN_s, cntN_s, sumL_s, Int64.add_assoc, mStQ, mMdQ, c_4, c_25, c_77, c_78, c_94] <;> omega) | grind [allN_s, anyN_s, cntN_s, sumL_s, Int64.add_assoc, mStQ, mMdQ]
            exact ih13 (H, locs, ls) (by omega) ⟨trivial, hB, by show lv_has ls 8 [(0, .ref (a0)), (1, .int (v1)), (2, .int (nI (cntN (mStQ u.2.2 2) (i_1 + 1)))), (3, .int (nI (cntN (mStQ u.2.2 3) (i_1 + 1)))), (4, .int (nI (cntN (mMdQ u.2.2) (i_1 + 1)))), (5, .int (nI (cntN (mIsSafe u.2.2) (i_1 + 1)))), (6, .int (nI (i_1 + 1)))]; rw [ea_99, ea_100, ea_101, ea_102]; exact lv_sub hl [5, 6, 4, 3, 2, 1, 0] rfl⟩
      · refine lv_iconst (v := nI 1) hx hb dX5_count_53 (by decide) ?_
        refine lv_goto (tgt := 58) hx hb dX5_count_54 (by decide) ?_
        refine w_iadd_n hx hb dX5_count_58 ?_
        refine lv_istore_n (lv' := [(3, .int (nI ((cntN (mStQ u.2.2 3) (i_1)) + 1))), (2, .int (nI ((cntN (mStQ u.2.2 2) (i_1)) + 1))), (0, .ref (a0)), (1, .int (v1)), (4, .int (nI (cntN (mMdQ u.2.2) (i_1)))), (5, .int (nI (cntN (mIsSafe u.2.2) (i_1)))), (6, .int (nI (i_1)))]) hx hb dX5_count_59 rfl hl (by decide) rfl (fun ls hl => ?_)
        refine lv_iload hx hb dX5_count_60 (lv_at hl 4 rfl) ?_
        refine lv_aload_n hx hb dX5_count_62 rfl (lv_at hl 2 rfl) ?_
        refine w_get (v := .ref (sA u 30 0)) (fk := 9) hF hB ha0 (cn_20 env u (0)) rfl in_X5 (by decide) tw_3_104 rfl rfl dX5_count_63 ?_
        refine lv_iload hx hb dX5_count_66 (lv_at hl 6 rfl) ?_
        refine w_iald (v := .int (nI (gN u.2.2 59 (0) (i_1)))) hF hB ⟨hM 30 (by decide), rfl⟩ (cn_30 env u (0)) (by omega) rfl (by decide) dX5_count_68 ?_
        refine w_ifle_n (tgt := 76) (by have := hNm 59 (0) (i_1); omega) hx hb dX5_count_69 (by decide) (fun c_103 => ?_) (fun c_103 => ?_)
        · refine lv_iconst (v := nI 0) hx hb dX5_count_76 (by decide) ?_
          refine w_iadd_n hx hb dX5_count_77 ?_
          refine lv_istore (lv' := [(4, .int (nI ((cntN (mMdQ u.2.2) (i_1)) + 0))), (3, .int (nI ((cntN (mStQ u.2.2 3) (i_1)) + 1))), (2, .int (nI ((cntN (mStQ u.2.2 2) (i_1)) + 1))), (0, .ref (a0)), (1, .int (v1)), (5, .int (nI (cntN (mIsSafe u.2.2) (i_1)))), (6, .int (nI (i_1)))]) hx hb dX5_count_78 hl (by decide) rfl (fun ls hl => ?_)
          refine lv_iload hx hb dX5_count_80 (lv_at hl 5 rfl) ?_
          refine lv_aload_n hx hb dX5_count_82 rfl (lv_at hl 3 rfl) ?_
          refine lv_iload hx hb dX5_count_83 (lv_at hl 6 rfl) ?_
          refine w_ci (r_V (As := [.int (nI (i_1))]) (rest := [.int (nI (cntN (mIsSafe u.2.2) (i_1)))]) hF hB (c_X5_isSafe l env s0 X u (a0) (0) (ha0) (i_1) hM hV hNm (by omega)) cv_X5_isSafe tw_4_75 ⟨rfl, rfl, by decide, by decide⟩ (hB.recv ha0 (cn_20 env u (0)) rfl) rfl hl.1 rfl (lv_room (Nat.le_of_ble_eq_true rfl)) dX5_count_85 ⟨Nat.le_of_ble_eq_true rfl, Nat.le_of_ble_eq_true rfl⟩) hB (fun r_104 u_106 H locs hq_105 hB => ?_)
          obtain ⟨rfl, rfl⟩ := hq_105
          refine w_ifeq_b (tgt := 95) hx hb dX5_count_88 (by decide) (fun c_107 => ?_) (fun c_107 => ?_)
          · refine lv_iconst (v := nI 0) hx hb dX5_count_95 (by decide) ?_
            refine w_iadd_n hx hb dX5_count_96 ?_
            refine lv_istore (lv' := [(5, .int (nI ((cntN (mIsSafe u.2.2) (i_1)) + 0))), (4, .int (nI ((cntN (mMdQ u.2.2) (i_1)) + 0))), (3, .int (nI ((cntN (mStQ u.2.2 3) (i_1)) + 1))), (2, .int (nI ((cntN (mStQ u.2.2 2) (i_1)) + 1))), (0, .ref (a0)), (1, .int (v1)), (6, .int (nI (i_1)))]) hx hb dX5_count_97 hl (by decide) rfl (fun ls hl => ?_)
            refine lv_iinc (v := nI (i_1 + 1)) (lv' := [(6, .int (nI (i_1 + 1))), (5, .int (nI ((cntN (mIsSafe u.2.2) (i_1)) + 0))), (4, .int (nI ((cntN (mMdQ u.2.2) (i_1)) + 0))), (3, .int (nI ((cntN (mStQ u.2.2 3) (i_1)) + 1))), (2, .int (nI ((cntN (mStQ u.2.2 2) (i_1)) + 1))), (0, .ref (a0)), (1, .int (v1))]) hx hb dX5_count_99 hl (k := 6) rfl (nI_add _ _) (by decide) rfl (fun ls hl => ?_)
            refine lv_goto (tgt := 13) hx hb dX5_count_102 (by decide) ?_
            have ea_108 : cntN (mStQ u.2.2 2) (i_1 + 1) = (cntN (mStQ u.2.2 2) (i_1)) + 1 := by first | (simp [allN_s, anyN_s, cntN_s, sumL_s, Int64.add_assoc, mStQ, mMdQ, c_4, c_25, c_77, c_103, c_107] <;> omega) | grind [allN_s, anyN_s, cntN_s, sumL_s, Int64.add_assoc, mStQ, mMdQ]
            have ea_109 : cntN (mStQ u.2.2 3) (i_1 + 1) = (cntN (mStQ u.2.2 3) (i_1)) + 1 := by first | (simp [allN_s, anyN_s, cntN_s, sumL_s, Int64.add_assoc, mStQ, mMdQ, c_4, c_25, c_77, c_103, c_107] <;> omega) | grind [allN_s, anyN_s, cntN_s, sumL_s, Int64.add_assoc, mStQ, mMdQ]
            have ea_110 : cntN (mMdQ u.2.2) (i_1 + 1) = (cntN (mMdQ u.2.2) (i_1)) + 0 := by first | (simp [allN_s, anyN_s, cntN_s, sumL_s, Int64.add_assoc, mStQ, mMdQ, c_4, c_25, c_77, c_103, c_107] <;> omega) | grind [allN_s, anyN_s, cntN_s, sumL_s, Int64.add_assoc, mStQ, mMdQ]
            have ea_111 : cntN (mIsSafe u.2.2) (i_1 + 1) = (cntN (mIsSafe u.2.2) (i_1)) + 0 := by first | (simp [allN_s, anyN_s, cntN_s, sumL_s, Int64.add_assoc, mStQ, mMdQ, c_4, c_25, c_77, c_103, c_107] <;> omega) | grind [allN_s, anyN_s, cntN_s, sumL_s, Int64.add_assoc, mStQ, mMdQ]
            exact ih13 (H, locs, ls) (by omega) ⟨trivial, hB, by show lv_has ls 8 [(0, .ref (a0)), (1, .int (v1)), (2, .int (nI (cntN (mStQ u.2.2 2) (i_1 + 1)))), (3, .int (nI (cntN (mStQ u.2.2 3) (i_1 + 1)))), (4, .int (nI (cntN (mMdQ u.2.2) (i_1 + 1)))), (5, .int (nI (cntN (mIsSafe u.2.2) (i_1 + 1)))), (6, .int (nI (i_1 + 1)))]; rw [ea_108, ea_109, ea_110, ea_111]; exact lv_sub hl [5, 6, 4, 3, 2, 1, 0] rfl⟩
          · refine lv_iconst (v := nI 1) hx hb dX5_count_91 (by decide) ?_
            refine lv_goto (tgt := 96) hx hb dX5_count_92 (by decide) ?_
            refine w_iadd_n hx hb dX5_count_96 ?_
            refine lv_istore (lv' := [(5, .int (nI ((cntN (mIsSafe u.2.2) (i_1)) + 1))), (4, .int (nI ((cntN (mMdQ u.2.2) (i_1)) + 0))), (3, .int (nI ((cntN (mStQ u.2.2 3) (i_1)) + 1))), (2, .int (nI ((cntN (mStQ u.2.2 2) (i_1)) + 1))), (0, .ref (a0)), (1, .int (v1)), (6, .int (nI (i_1)))]) hx hb dX5_count_97 hl (by decide) rfl (fun ls hl => ?_)
            refine lv_iinc (v := nI (i_1 + 1)) (lv' := [(6, .int (nI (i_1 + 1))), (5, .int (nI ((cntN (mIsSafe u.2.2) (i_1)) + 1))), (4, .int (nI ((cntN (mMdQ u.2.2) (i_1)) + 0))), (3, .int (nI ((cntN (mStQ u.2.2 3) (i_1)) + 1))), (2, .int (nI ((cntN (mStQ u.2.2 2) (i_1)) + 1))), (0, .ref (a0)), (1, .int (v1))]) hx hb dX5_count_99 hl (k := 6) rfl (nI_add _ _) (by decide) rfl (fun ls hl => ?_)
            refine lv_goto (tgt := 13) hx hb dX5_count_102 (by decide) ?_
            have ea_112 : cntN (mStQ u.2.2 2) (i_1 + 1) = (cntN (mStQ u.2.2 2) (i_1)) + 1 := by first | (simp [allN_s, anyN_s, cntN_s, sumL_s, Int64.add_assoc, mStQ, mMdQ, c_4, c_25, c_77, c_103, c_107] <;> omega) | grind [allN_s, anyN_s, cntN_s, sumL_s, Int64.add_assoc, mStQ, mMdQ]
            have ea_113 : cntN (mStQ u.2.2 3) (i_1 + 1) = (cntN (mStQ u.2.2 3) (i_1)) + 1 := by first | (simp [allN_s, anyN_s, cntN_s, sumL_s, Int64.add_assoc, mStQ, mMdQ, c_4, c_25, c_77, c_103, c_107] <;> omega) | grind [allN_s, anyN_s, cntN_s, sumL_s, Int64.add_assoc, mStQ, mMdQ]
            have ea_114 : cntN (mMdQ u.2.2) (i_1 + 1) = (cntN (mMdQ u.2.2) (i_1)) + 0 := by first | (simp [allN_s, anyN_s, cntN_s, sumL_s, Int64.add_assoc, mStQ, mMdQ, c_4, c_25, c_77, c_103, c_107] <;> omega) | grind [allN_s, anyN_s, cntN_s, sumL_s, Int64.add_assoc, mStQ, mMdQ]
            have ea_115 : cntN (mIsSafe u.2.2) (i_1 + 1) = (cntN (mIsSafe u.2.2) (i_1)) + 1 := by first | (simp [allN_s, anyN_s, cntN_s, sumL_s, Int64.add_assoc, mStQ, mMdQ, c_4, c_25, c_77, c_103, c_107] <;> omega) | grind [allN_s, anyN_s, cntN_s, sumL_s, Int64.add_assoc, mStQ, mMdQ]
            exact ih13 (H, locs, ls) (by omega) ⟨trivial, hB, by show lv_has ls 8 [(0, .ref (a0)), (1, .int (v1)), (2, .int (nI (cntN (mStQ u.2.2 2) (i_1 + 1)))), (3, .int (nI (cntN (mStQ u.2.2 3) (i_1 + 1)))), (4, .int (nI (cntN (mMdQ u.2.2) (i_1 + 1)))), (5, .int (nI (cntN (mIsSafe u.2.2) (i_1 + 1)))), (6, .int (nI (i_1 + 1)))]; rw [ea_112, ea_113, ea_114, ea_115]; exact lv_sub hl [5, 6, 4, 3, 2, 1, 0] rfl⟩
        · refine lv_iconst (v := nI 1) hx hb dX5_count_72 (by decide) ?_
          refine lv_goto (tgt := 77) hx hb dX5_count_73 (by decide) ?_
          refine w_iadd_n hx hb dX5_count_77 ?_
          refine lv_istore (lv' := [(4, .int (nI ((cntN (mMdQ u.2.2) (i_1)) + 1))), (3, .int (nI ((cntN (mStQ u.2.2 3) (i_1)) + 1))), (2, .int (nI ((cntN (mStQ u.2.2 2) (i_1)) + 1))), (0, .ref (a0)), (1, .int (v1)), (5, .int (nI (cntN (mIsSafe u.2.2) (i_1)))), (6, .int (nI (i_1)))]) hx hb dX5_count_78 hl (by decide) rfl (fun ls hl => ?_)
          refine lv_iload hx hb dX5_count_80 (lv_at hl 5 rfl) ?_
          refine lv_aload_n hx hb dX5_count_82 rfl (lv_at hl 3 rfl) ?_
          refine lv_iload hx hb dX5_count_83 (lv_at hl 6 rfl) ?_
          refine w_ci (r_V (As := [.int (nI (i_1))]) (rest := [.int (nI (cntN (mIsSafe u.2.2) (i_1)))]) hF hB (c_X5_isSafe l env s0 X u (a0) (0) (ha0) (i_1) hM hV hNm (by omega)) cv_X5_isSafe tw_4_75 ⟨rfl, rfl, by decide, by decide⟩ (hB.recv ha0 (cn_20 env u (0)) rfl) rfl hl.1 rfl (lv_room (Nat.le_of_ble_eq_true rfl)) dX5_count_85 ⟨Nat.le_of_ble_eq_true rfl, Nat.le_of_ble_eq_true rfl⟩) hB (fun r_116 u_118 H locs hq_117 hB => ?_)
          obtain ⟨rfl, rfl⟩ := hq_117
          refine w_ifeq_b (tgt := 95) hx hb dX5_count_88 (by decide) (fun c_119 => ?_) (fun c_119 => ?_)
          · refine lv_iconst (v := nI 0) hx hb dX5_count_95 (by decide) ?_
            refine w_iadd_n hx hb dX5_count_96 ?_
            refine lv_istore (lv' := [(5, .int (nI ((cntN (mIsSafe u.2.2) (i_1)) + 0))), (4, .int (nI ((cntN (mMdQ u.2.2) (i_1)) + 1))), (3, .int (nI ((cntN (mStQ u.2.2 3) (i_1)) + 1))), (2, .int (nI ((cntN (mStQ u.2.2 2) (i_1)) + 1))), (0, .ref (a0)), (1, .int (v1)), (6, .int (nI (i_1)))]) hx hb dX5_count_97 hl (by decide) rfl (fun ls hl => ?_)
            refine lv_iinc (v := nI (i_1 + 1)) (lv' := [(6, .int (nI (i_1 + 1))), (5, .int (nI ((cntN (mIsSafe u.2.2) (i_1)) + 0))), (4, .int (nI ((cntN (mMdQ u.2.2) (i_1)) + 1))), (3, .int (nI ((cntN (mStQ u.2.2 3) (i_1)) + 1))), (2, .int (nI ((cntN (mStQ u.2.2 2) (i_1)) + 1))), (0, .ref (a0)), (1, .int (v1))]) hx hb dX5_count_99 hl (k := 6) rfl (nI_add _ _) (by decide) rfl (fun ls hl => ?_)
            refine lv_goto (tgt := 13) hx hb dX5_count_102 (by decide) ?_
            have ea_120 : cntN (mStQ u.2.2 2) (i_1 + 1) = (cntN (mStQ u.2.2 2) (i_1)) + 1 := by first | (simp [allN_s, anyN_s, cntN_s, sumL_s, Int64.add_assoc, mStQ, mMdQ, c_4, c_25, c_77, c_103, c_119] <;> omega) | grind [allN_s, anyN_s, cntN_s, sumL_s, Int64.add_assoc, mStQ, mMdQ]
            have ea_121 : cntN (mStQ u.2.2 3) (i_1 + 1) = (cntN (mStQ u.2.2 3) (i_1)) + 1 := by first | (simp [allN_s, anyN_s, cntN_s, sumL_s, Int64.add_assoc, mStQ, mMdQ, c_4, c_25, c_77, c_103, c_119] <;> omega) | grind [allN_s, anyN_s, cntN_s, sumL_s, Int64.add_assoc, mStQ, mMdQ]
            have ea_122 : cntN (mMdQ u.2.2) (i_1 + 1) = (cntN (mMdQ u.2.2) (i_1)) + 1 := by first | (simp [allN_s, anyN_s, cntN_s, sumL_s, Int64.add_assoc, mStQ, mMdQ, c_4, c_25, c_77, c_103, c_119] <;> omega) | grind [allN_s, anyN_s, cntN_s, sumL_s, Int64.add_assoc, mStQ, mMdQ]
            have ea_123 : cntN (mIsSafe u.2.2) (i_1 + 1) = (cntN (mIsSafe u.2.2) (i_1)) + 0 := by first | (simp [allN_s, anyN_s, cntN_s, sumL_s, Int64.add_assoc, mStQ, mMdQ, c_4, c_25, c_77, c_103, c_119] <;> omega) | grind [allN_s, anyN_s, cntN_s, sumL_s, Int64.add_assoc, mStQ, mMdQ]
            exact ih13 (H, locs, ls) (by omega) ⟨trivial, hB, by show lv_has ls 8 [(0, .ref (a0)), (1, .int (v1)), (2, .int (nI (cntN (mStQ u.2.2 2) (i_1 + 1)))), (3, .int (nI (cntN (mStQ u.2.2 3) (i_1 + 1)))), (4, .int (nI (cntN (mMdQ u.2.2) (i_1 + 1)))), (5, .int (nI (cntN (mIsSafe u.2.2) (i_1 + 1)))), (6, .int (nI (i_1 + 1)))]; rw [ea_120, ea_121, ea_122, ea_123]; exact lv_sub hl [5, 6, 4, 3, 2, 1, 0] rfl⟩
          · refine lv_iconst (v := nI 1) hx hb dX5_count_91 (by decide) ?_
            refine lv_goto (tgt := 96) hx hb dX5_count_92 (by decide) ?_
            refine w_iadd_n hx hb dX5_count_96 ?_
            refine lv_istore (lv' := [(5, .int (nI ((cntN (mIsSafe u.2.2) (i_1)) + 1))), (4, .int (nI ((cntN (mMdQ u.2.2) (i_1)) + 1))), (3, .int (nI ((cntN (mStQ u.2.2 3) (i_1)) + 1))), (2, .int (nI ((cntN (mStQ u.2.2 2) (i_1)) + 1))), (0, .ref (a0)), (1, .int (v1)), (6, .int (nI (i_1)))]) hx hb dX5_count_97 hl (by decide) rfl (fun ls hl => ?_)
            refine lv_iinc (v := nI (i_1 + 1)) (lv' := [(6, .int (nI (i_1 + 1))), (5, .int (nI ((cntN (mIsSafe u.2.2) (i_1)) + 1))), (4, .int (nI ((cntN (mMdQ u.2.2) (i_1)) + 1))), (3, .int (nI ((cntN (mStQ u.2.2 3) (i_1)) + 1))), (2, .int (nI ((cntN (mStQ u.2.2 2) (i_1)) + 1))), (0, .ref (a0)), (1, .int (v1))]) hx hb dX5_count_99 hl (k := 6) rfl (nI_add _ _) (by decide) rfl (fun ls hl => ?_)
            refine lv_goto (tgt := 13) hx hb dX5_count_102 (by decide) ?_
            have ea_124 : cntN (mStQ u.2.2 2) (i_1 + 1) = (cntN (mStQ u.2.2 2) (i_1)) + 1 := by first | (simp [allN_s, anyN_s, cntN_s, sumL_s, Int64.add_assoc, mStQ, mMdQ, c_4, c_25, c_77, c_103, c_119] <;> omega) | grind [allN_s, anyN_s, cntN_s, sumL_s, Int64.add_assoc, mStQ, mMdQ]
            have ea_125 : cntN (mStQ u.2.2 3) (i_1 + 1) = (cntN (mStQ u.2.2 3) (i_1)) + 1 := by first | (simp [allN_s, anyN_s, cntN_s, sumL_s, Int64.add_assoc, mStQ, mMdQ, c_4, c_25, c_77, c_103, c_119] <;> omega) | grind [allN_s, anyN_s, cntN_s, sumL_s, Int64.add_assoc, mStQ, mMdQ]
            have ea_126 : cntN (mMdQ u.2.2) (i_1 + 1) = (cntN (mMdQ u.2.2) (i_1)) + 1 := by first | (simp [allN_s, anyN_s, cntN_s, sumL_s, Int64.add_assoc, mStQ, mMdQ, c_4, c_25, c_77, c_103, c_119] <;> omega) | grind [allN_s, anyN_s, cntN_s, sumL_s, Int64.add_assoc, mStQ, mMdQ]
            have ea_127 : cntN (mIsSafe u.2.2) (i_1 + 1) = (cntN (mIsSafe u.2.2) (i_1)) + 1 := by first | (simp [allN_s, anyN_s, cntN_s, sumL_s, Int64.add_assoc, mStQ, mMdQ, c_4, c_25, c_77, c_103, c_119] <;> omega) | grind [allN_s, anyN_s, cntN_s, sumL_s, Int64.add_assoc, mStQ, mMdQ]
            exact ih13 (H, locs, ls) (by omega) ⟨trivial, hB, by show lv_has ls 8 [(0, .ref (a0)), (1, .int (v1)), (2, .int (nI (cntN (mStQ u.2.2 2) (i_1 + 1)))), (3, .int (nI (cntN (mStQ u.2.2 3) (i_1 + 1)))), (4, .int (nI (cntN (mMdQ u.2.2) (i_1 + 1)))), (5, .int (nI (cntN (mIsSafe u.2.2) (i_1 + 1)))), (6, .int (nI (i_1 + 1)))]; rw [ea_124, ea_125, ea_126, ea_127]; exact lv_sub hl [5, 6, 4, 3, 2, 1, 0] rfl⟩

theorem hs_X0_at : yX0_at.cls ≠ "java/lang/invoke/MethodHandle" ∧ yX0_at.cls ≠ "java/lang/invoke/VarHandle" ∧ (parseMethodDescriptor yX0_at.desc).map (fun d => d.parameters.length) = some 1 := by decide +kernel
theorem hv_X0_at : yX0_at.cls = RX0 ∧ yX0_at.cls ≠ "java/lang/invoke/MethodHandle" ∧ yX0_at.cls ≠ "java/lang/invoke/VarHandle" ∧ (parseMethodDescriptor yX0_at.desc).map (fun d => d.parameters.length) = some 1 := ⟨rfl, hs_X0_at⟩
theorem hs_X0_digitAt : yX0_digitAt.cls ≠ "java/lang/invoke/MethodHandle" ∧ yX0_digitAt.cls ≠ "java/lang/invoke/VarHandle" ∧ (parseMethodDescriptor yX0_digitAt.desc).map (fun d => d.parameters.length) = some 1 := by decide +kernel
theorem hv_X0_digitAt : yX0_digitAt.cls = RX0 ∧ yX0_digitAt.cls ≠ "java/lang/invoke/MethodHandle" ∧ yX0_digitAt.cls ≠ "java/lang/invoke/VarHandle" ∧ (parseMethodDescriptor yX0_digitAt.desc).map (fun d => d.parameters.length) = some 1 := ⟨rfl, hs_X0_digitAt⟩
theorem hs_X0_lengthOf : yX0_lengthOf.cls ≠ "java/lang/invoke/MethodHandle" ∧ yX0_lengthOf.cls ≠ "java/lang/invoke/VarHandle" ∧ (parseMethodDescriptor yX0_lengthOf.desc).map (fun d => d.parameters.length) = some 1 := by decide +kernel
theorem hs_X1_ofLetter : yX1_ofLetter.cls ≠ "java/lang/invoke/MethodHandle" ∧ yX1_ofLetter.cls ≠ "java/lang/invoke/VarHandle" ∧ (parseMethodDescriptor yX1_ofLetter.desc).map (fun d => d.parameters.length) = some 1 := by decide +kernel
theorem hs_X0_fits : yX0_fits.cls ≠ "java/lang/invoke/MethodHandle" ∧ yX0_fits.cls ≠ "java/lang/invoke/VarHandle" ∧ (parseMethodDescriptor yX0_fits.desc).map (fun d => d.parameters.length) = some 3 := by decide +kernel
set_option maxHeartbeats 4000000 in
set_option maxRecDepth 100000 in
theorem kX0_at (l : Launch) (D : va_G) (cI : ClassId) (y16 y17 L : Nat) (lt : RR) (p0 : Int32) (t0 : Nat) (hp0 : p0 = nI t0) (ht0 : t0 ≤ 1000) (hL : L ≤ 96) : Met l yX0_at wsX0_at ({ frames := 0, cells := 0, slots := 0, locals := 0 }) (PRO D cI [.ref y16, .int p0] [(y16, .inr (0, [.ref y17, .int (nI L)])), (y17, .inl (cI, 96, .inl lt))]) (vp_Si (fun v => v = atF lt L t0)) 0 0 (fun _ => False) := by
  refine st_roi (cc := cX0_at) (maxL := 2) (rt := .int) (by decide) rfl (Nat.le_of_ble_eq_true rfl) (fun _ _ => rfl) ?_
  intro p e s m below meth c Q ls hx hb hml hts hown hP hK hl hret
  replace hown : s.vm.findClass RX0 = some m.cls := hown
  replace hl : lv_has ls 2 [(0, .ref y16), (1, .int p0)] := hl
  have hi_X0 : ∀ w ∈ wsX00, w ∈ wsX0_at := fun w h => List.mem_cons_of_mem _ (List.mem_append_right _ (h))
  have hk_15 := hts (.fieldLink RX0 15 "NestsOfTalk$CloseText" "length" "I") (List.mem_of_getElem? (i := 1) rfl)
  have hk_9 := hts (.fieldLink RX0 9 "NestsOfTalk$CloseText" "letters" "[I") (List.mem_of_getElem? (i := 2) rfl)
  refine lv_iload_n hx hb dX0_at_0 rfl (lv_at hl 1 rfl) ?_
  refine lv_if_lt (tgt := 27) hx hb dX0_at_1 (by decide) (fun c_1 => ?_) (fun c_1 => ?_)
  · skip
    have n_1 : t0 < 0 := (ni_lt (a := t0) (b := 0) hp0 (rfl : (0 : Int32) = nI 0) (by omega) (by decide)).mp c_1
    exact absurd c_1 (by rw [hp0]; exact nI_nn (by omega))
  have n_1 : ¬ t0 < 0 := fun q => c_1 ((ni_lt (a := t0) (b := 0) hp0 (rfl : (0 : Int32) = nI 0) (by omega) (by decide)).mpr q)
  refine lv_iload_n hx hb dX0_at_4 rfl (lv_at hl 1 rfl) ?_
  refine lv_aload_n hx hb dX0_at_5 rfl (lv_at hl 0 rfl) ?_
  refine va_get (D := D) (ci := 0) (v := .int (nI L)) (C := RX0) (T := TX0) (N := 2) hx hb hts hi_X0 hown hK.1 hP 0 rfl rfl 1 (by decide) hk_15 (fun _ h9 => h9) rfl dX0_at_6 ?_
  refine lv_icmp_ge (tgt := 27) hx hb dX0_at_9 (by decide) (fun c_2 => ?_) (fun c_2 => ?_)
  · skip
    have n_2 : L ≤ t0 := (ni_le (a := L) (b := t0) rfl hp0 (by omega) (by omega)).mp c_2
    refine lv_bipush (v := (-9)) hx hb dX0_at_27 (by decide) ?_
    exact hret 29 _ (-9) dX0_at_29 (if_neg (by omega)).symm
  have n_2 : ¬ L ≤ t0 := fun q => c_2 ((ni_le (a := L) (b := t0) rfl hp0 (by omega) (by omega)).mpr q)
  refine lv_iload_n hx hb dX0_at_12 rfl (lv_at hl 1 rfl) ?_
  refine lv_bipush (v := 96) hx hb dX0_at_13 (by decide) ?_
  refine lv_icmp_ge (tgt := 27) hx hb dX0_at_15 (by decide) (fun c_3 => ?_) (fun c_3 => ?_)
  · skip
    have n_3 : 96 ≤ t0 := (ni_le (a := 96) (b := t0) (rfl : (96 : Int32) = nI 96) hp0 (by decide) (by omega)).mp c_3
    exfalso; omega
  have n_3 : ¬ 96 ≤ t0 := fun q => c_3 ((ni_le (a := 96) (b := t0) (rfl : (96 : Int32) = nI 96) hp0 (by decide) (by omega)).mpr q)
  refine lv_aload_n hx hb dX0_at_18 rfl (lv_at hl 0 rfl) ?_
  refine va_get (D := D) (ci := 0) (v := .ref y17) (C := RX0) (T := TX0) (N := 2) hx hb hts hi_X0 hown hK.1 hP 0 rfl rfl 0 (by decide) hk_9 (fun _ h9 => h9) rfl dX0_at_19 ?_
  refine lv_iload_n hx hb dX0_at_22 rfl (lv_at hl 1 rfl) ?_
  refine xa_ld hx hb hK hP 1 rfl (j := t0) hp0 (by omega) (by decide) dX0_at_23 ?_
  refine lv_goto (tgt := 29) hx hb dX0_at_24 (by decide) ?_
  exact hret 29 _ (lt t0) dX0_at_29 (if_pos (by omega)).symm

set_option maxHeartbeats 4000000 in
set_option maxRecDepth 100000 in
theorem kX0_digitAt (l : Launch) (D : va_G) (cI : ClassId) (y16 y17 L : Nat) (lt : RR) (p0 : Int32) (t0 : Nat) (hp0 : p0 = nI t0) (ht0 : t0 ≤ 1000) (hL : L ≤ 96) : Met l yX0_digitAt wsX0_digitAt ({ frames := 1, cells := 0, slots := 0, locals := 21 }) (PRO D cI [.ref y16, .int p0] [(y16, .inr (0, [.ref y17, .int (nI L)])), (y17, .inl (cI, 96, .inl lt))]) (vp_Si (fun v => v = atF lt L t0 - 48)) 0 0 (fun _ => False) := by
  refine st_roi (cc := cX0_digitAt) (maxL := 2) (rt := .int) (by decide) rfl (Nat.le_of_ble_eq_true rfl) (fun _ _ => rfl) ?_
  intro p e s m below meth c Q ls hx hb hml hts hown hP hK hl hret
  replace hown : s.vm.findClass RX0 = some m.cls := hown
  replace hl : lv_has ls 2 [(0, .ref y16), (1, .int p0)] := hl
  refine lv_aload_n hx hb dX0_digitAt_0 rfl (lv_at hl 0 rfl) ?_
  refine lv_iload_n hx hb dX0_digitAt_1 rfl (lv_at hl 1 rfl) ?_
  refine xc_Vi (As := [.int p0]) (rest := []) ⟨hx, hb, hml, hown, hts⟩ (kX0_at l D cI y16 y17 L lt p0 t0 hp0  (by omega) (by omega)) (cwV 1 hts gX0_digitAt_X0_at rfl rfl rfl hv_X0_at ⟨Nat.le_of_ble_eq_true rfl, Nat.le_of_ble_eq_true rfl⟩) hK hP [0, 1] rfl 0 rfl rfl rfl hl.1 rfl (Nat.le_of_ble_eq_true rfl) dX0_digitAt_2 ⟨Nat.zero_le _, Nat.zero_le _⟩ (fun r_1 hr_1 => ?_)
  refine lv_bipush (v := 48) hx hb dX0_digitAt_5 (by decide) ?_
  refine lv_isub hx hb dX0_digitAt_7 ?_
  exact hret 8 _ (r_1 - 48) dX0_digitAt_8 (by rw [hr_1])

set_option maxHeartbeats 4000000 in
set_option maxRecDepth 100000 in
theorem kX0_lengthOf (l : Launch) (D : va_G) (cI : ClassId) (p0 : Int32) : Met l yX0_lengthOf wsX0_lengthOf ({ frames := 0, cells := 0, slots := 0, locals := 0 }) (PRO D cI [.int p0] []) (vp_Si (fun v => v = nI (lnN p0))) 0 0 (fun _ => False) := by
  refine st_roi (cc := cX0_lengthOf) (maxL := 1) (rt := .int) (by decide) rfl (Nat.le_of_ble_eq_true rfl) (fun _ _ => rfl) ?_
  intro p e s m below meth c Q ls hx hb hml hts hown hP hK hl hret
  replace hown : s.vm.findClass RX0 = some m.cls := hown
  replace hl : lv_has ls 1 [(0, .int p0)] := hl
  refine lv_iload_n hx hb dX0_lengthOf_0 rfl (lv_at hl 0 rfl) ?_
  by_cases c_1 : p0 = 97
  · refine xs_lin (k := 97) (off := 61) (tgt := 62) hx hb dX0_lengthOf_1 c_1 (by decide) (by decide) (by decide) ?_
    refine lv_iconst (v := 4) hx hb dX0_lengthOf_62 (by decide) ?_
    exact hret 63 _ 4 dX0_lengthOf_63 (by first | (simp [lnN, c_1]; done) | (simp [lnN, c_1]; rfl))
  by_cases c_2 : p0 = 98
  · refine xs_lin (k := 98) (off := 63) (tgt := 64) hx hb dX0_lengthOf_1 c_2 (by decide) (by decide) (by decide) ?_
    refine lv_iconst (v := 3) hx hb dX0_lengthOf_64 (by decide) ?_
    exact hret 65 _ 3 dX0_lengthOf_65 (by first | (simp [lnN, c_1, c_2]; done) | (simp [lnN, c_1, c_2]; rfl))
  by_cases c_3 : p0 = 100
  · refine xs_lin (k := 100) (off := 61) (tgt := 62) hx hb dX0_lengthOf_1 c_3 (by decide) (by decide) (by decide) ?_
    refine lv_iconst (v := 4) hx hb dX0_lengthOf_62 (by decide) ?_
    exact hret 63 _ 4 dX0_lengthOf_63 (by first | (simp [lnN, c_1, c_2, c_3]; done) | (simp [lnN, c_1, c_2, c_3]; rfl))
  by_cases c_4 : p0 = 115
  · refine xs_lin (k := 115) (off := 59) (tgt := 60) hx hb dX0_lengthOf_1 c_4 (by decide) (by decide) (by decide) ?_
    refine lv_iconst (v := 5) hx hb dX0_lengthOf_60 (by decide) ?_
    exact hret 61 _ 5 dX0_lengthOf_61 (by first | (simp [lnN, c_1, c_2, c_3, c_4]; done) | (simp [lnN, c_1, c_2, c_3, c_4]; rfl))
  by_cases c_5 : p0 = 116
  · refine xs_lin (k := 116) (off := 63) (tgt := 64) hx hb dX0_lengthOf_1 c_5 (by decide) (by decide) (by decide) ?_
    refine lv_iconst (v := 3) hx hb dX0_lengthOf_64 (by decide) ?_
    exact hret 65 _ 3 dX0_lengthOf_65 (by first | (simp [lnN, c_1, c_2, c_3, c_4, c_5]; done) | (simp [lnN, c_1, c_2, c_3, c_4, c_5]; rfl))
  by_cases c_6 : p0 = 119
  · refine xs_lin (k := 119) (off := 61) (tgt := 62) hx hb dX0_lengthOf_1 c_6 (by decide) (by decide) (by decide) ?_
    refine lv_iconst (v := 4) hx hb dX0_lengthOf_62 (by decide) ?_
    exact hret 63 _ 4 dX0_lengthOf_63 (by first | (simp [lnN, c_1, c_2, c_3, c_4, c_5, c_6]; done) | (simp [lnN, c_1, c_2, c_3, c_4, c_5, c_6]; rfl))
  refine xs_lout (tgt := 66) (ks := [97, 98, 100, 115, 116, 119]) hx hb dX0_lengthOf_1 (List.forall_mem_cons.mpr ⟨c_1, List.forall_mem_cons.mpr ⟨c_2, List.forall_mem_cons.mpr ⟨c_3, List.forall_mem_cons.mpr ⟨c_4, List.forall_mem_cons.mpr ⟨c_5, List.forall_mem_cons.mpr ⟨c_6, fun _ h => absurd h List.not_mem_nil⟩⟩⟩⟩⟩⟩) (by decide) (by decide) (by decide) ?_
  refine lv_iconst (v := 0) hx hb dX0_lengthOf_66 (by decide) ?_
  exact hret 67 _ 0 dX0_lengthOf_67 (by first | (simp [lnN, c_1, c_2, c_3, c_4, c_5, c_6]; done) | (simp [lnN, c_1, c_2, c_3, c_4, c_5, c_6]; rfl))

set_option maxHeartbeats 4000000 in
set_option maxRecDepth 100000 in
theorem kX1_ofLetter (l : Launch) (D : va_G) (cI : ClassId) (p0 : Int32) : Met l yX1_ofLetter wsX1_ofLetter ({ frames := 0, cells := 0, slots := 0, locals := 0 }) (PRO D cI [.int p0] []) (vp_Si (fun v => v = kndOf p0)) 0 0 (fun _ => False) := by
  refine st_roi (cc := cX1_ofLetter) (maxL := 1) (rt := .int) (by decide) rfl (Nat.le_of_ble_eq_true rfl) (fun _ _ => rfl) ?_
  intro p e s m below meth c Q ls hx hb hml hts hown hP hK hl hret
  replace hown : s.vm.findClass RX1 = some m.cls := hown
  replace hl : lv_has ls 1 [(0, .int p0)] := hl
  refine lv_iload_n hx hb dX1_ofLetter_0 rfl (lv_at hl 0 rfl) ?_
  by_cases c_1 : p0 = 103
  · refine xs_tin (k := 103) (off := 71) (tgt := 72) hx hb dX1_ofLetter_1 c_1 (by decide) (by decide) (by decide) (by decide) (by decide) ?_
    refine lv_iconst (v := 0) hx hb dX1_ofLetter_72 (by decide) ?_
    exact hret 73 _ 0 dX1_ofLetter_73 (by clear hret hP hK hts hown hx hb hml hl; subst_vars; first | (simp [kndOf, c_1]; done) | (simp_all [kndOf]; done) | (try simp only [kndOf]; (repeat' split) <;> first | rfl | contradiction | (simp_all; done) | (exfalso; simp only [not_and, Int32.lt_iff_toInt_lt, Int32.le_iff_toInt_le] at *; omega)))
  by_cases c_2 : p0 = 104
  · refine xs_tin (k := 104) (off := 77) (tgt := 78) hx hb dX1_ofLetter_1 c_2 (by decide) (by decide) (by decide) (by decide) (by decide) ?_
    refine lv_iconst (v := 3) hx hb dX1_ofLetter_78 (by decide) ?_
    exact hret 79 _ 3 dX1_ofLetter_79 (by clear hret hP hK hts hown hx hb hml hl; subst_vars; first | (simp [kndOf, c_1, c_2]; done) | (simp_all [kndOf]; done) | (try simp only [kndOf]; (repeat' split) <;> first | rfl | contradiction | (simp_all; done) | (exfalso; simp only [not_and, Int32.lt_iff_toInt_lt, Int32.le_iff_toInt_le] at *; omega)))
  by_cases c_3 : p0 = 105
  · refine xs_tin (k := 105) (off := 83) (tgt := 84) hx hb dX1_ofLetter_1 c_3 (by decide) (by decide) (by decide) (by decide) (by decide) ?_
    refine lv_bipush (v := (-9)) hx hb dX1_ofLetter_84 (by decide) ?_
    exact hret 86 _ (-9) dX1_ofLetter_86 (by clear hret hP hK hts hown hx hb hml hl; subst_vars; first | (simp [kndOf, c_1, c_2, c_3]; done) | (simp_all [kndOf]; done) | (try simp only [kndOf]; (repeat' split) <;> first | rfl | contradiction | (simp_all; done) | (exfalso; simp only [not_and, Int32.lt_iff_toInt_lt, Int32.le_iff_toInt_le] at *; omega)))
  by_cases c_4 : p0 = 106
  · refine xs_tin (k := 106) (off := 83) (tgt := 84) hx hb dX1_ofLetter_1 c_4 (by decide) (by decide) (by decide) (by decide) (by decide) ?_
    refine lv_bipush (v := (-9)) hx hb dX1_ofLetter_84 (by decide) ?_
    exact hret 86 _ (-9) dX1_ofLetter_86 (by clear hret hP hK hts hown hx hb hml hl; subst_vars; first | (simp [kndOf, c_1, c_2, c_3, c_4]; done) | (simp_all [kndOf]; done) | (try simp only [kndOf]; (repeat' split) <;> first | rfl | contradiction | (simp_all; done) | (exfalso; simp only [not_and, Int32.lt_iff_toInt_lt, Int32.le_iff_toInt_le] at *; omega)))
  by_cases c_5 : p0 = 107
  · refine xs_tin (k := 107) (off := 83) (tgt := 84) hx hb dX1_ofLetter_1 c_5 (by decide) (by decide) (by decide) (by decide) (by decide) ?_
    refine lv_bipush (v := (-9)) hx hb dX1_ofLetter_84 (by decide) ?_
    exact hret 86 _ (-9) dX1_ofLetter_86 (by clear hret hP hK hts hown hx hb hml hl; subst_vars; first | (simp [kndOf, c_1, c_2, c_3, c_4, c_5]; done) | (simp_all [kndOf]; done) | (try simp only [kndOf]; (repeat' split) <;> first | rfl | contradiction | (simp_all; done) | (exfalso; simp only [not_and, Int32.lt_iff_toInt_lt, Int32.le_iff_toInt_le] at *; omega)))
  by_cases c_6 : p0 = 108
  · refine xs_tin (k := 108) (off := 81) (tgt := 82) hx hb dX1_ofLetter_1 c_6 (by decide) (by decide) (by decide) (by decide) (by decide) ?_
    refine lv_iconst (v := 5) hx hb dX1_ofLetter_82 (by decide) ?_
    exact hret 83 _ 5 dX1_ofLetter_83 (by clear hret hP hK hts hown hx hb hml hl; subst_vars; first | (simp [kndOf, c_1, c_2, c_3, c_4, c_5, c_6]; done) | (simp_all [kndOf]; done) | (try simp only [kndOf]; (repeat' split) <;> first | rfl | contradiction | (simp_all; done) | (exfalso; simp only [not_and, Int32.lt_iff_toInt_lt, Int32.le_iff_toInt_le] at *; omega)))
  by_cases c_7 : p0 = 109
  · refine xs_tin (k := 109) (off := 75) (tgt := 76) hx hb dX1_ofLetter_1 c_7 (by decide) (by decide) (by decide) (by decide) (by decide) ?_
    refine lv_iconst (v := 2) hx hb dX1_ofLetter_76 (by decide) ?_
    exact hret 77 _ 2 dX1_ofLetter_77 (by clear hret hP hK hts hown hx hb hml hl; subst_vars; first | (simp [kndOf, c_1, c_2, c_3, c_4, c_5, c_6, c_7]; done) | (simp_all [kndOf]; done) | (try simp only [kndOf]; (repeat' split) <;> first | rfl | contradiction | (simp_all; done) | (exfalso; simp only [not_and, Int32.lt_iff_toInt_lt, Int32.le_iff_toInt_le] at *; omega)))
  by_cases c_8 : p0 = 110
  · refine xs_tin (k := 110) (off := 83) (tgt := 84) hx hb dX1_ofLetter_1 c_8 (by decide) (by decide) (by decide) (by decide) (by decide) ?_
    refine lv_bipush (v := (-9)) hx hb dX1_ofLetter_84 (by decide) ?_
    exact hret 86 _ (-9) dX1_ofLetter_86 (by clear hret hP hK hts hown hx hb hml hl; subst_vars; first | (simp [kndOf, c_1, c_2, c_3, c_4, c_5, c_6, c_7, c_8]; done) | (simp_all [kndOf]; done) | (try simp only [kndOf]; (repeat' split) <;> first | rfl | contradiction | (simp_all; done) | (exfalso; simp only [not_and, Int32.lt_iff_toInt_lt, Int32.le_iff_toInt_le] at *; omega)))
  by_cases c_9 : p0 = 111
  · refine xs_tin (k := 111) (off := 83) (tgt := 84) hx hb dX1_ofLetter_1 c_9 (by decide) (by decide) (by decide) (by decide) (by decide) ?_
    refine lv_bipush (v := (-9)) hx hb dX1_ofLetter_84 (by decide) ?_
    exact hret 86 _ (-9) dX1_ofLetter_86 (by clear hret hP hK hts hown hx hb hml hl; subst_vars; first | (simp [kndOf, c_1, c_2, c_3, c_4, c_5, c_6, c_7, c_8, c_9]; done) | (simp_all [kndOf]; done) | (try simp only [kndOf]; (repeat' split) <;> first | rfl | contradiction | (simp_all; done) | (exfalso; simp only [not_and, Int32.lt_iff_toInt_lt, Int32.le_iff_toInt_le] at *; omega)))
  by_cases c_10 : p0 = 112
  · refine xs_tin (k := 112) (off := 73) (tgt := 74) hx hb dX1_ofLetter_1 c_10 (by decide) (by decide) (by decide) (by decide) (by decide) ?_
    refine lv_iconst (v := 1) hx hb dX1_ofLetter_74 (by decide) ?_
    exact hret 75 _ 1 dX1_ofLetter_75 (by clear hret hP hK hts hown hx hb hml hl; subst_vars; first | (simp [kndOf, c_1, c_2, c_3, c_4, c_5, c_6, c_7, c_8, c_9, c_10]; done) | (simp_all [kndOf]; done) | (try simp only [kndOf]; (repeat' split) <;> first | rfl | contradiction | (simp_all; done) | (exfalso; simp only [not_and, Int32.lt_iff_toInt_lt, Int32.le_iff_toInt_le] at *; omega)))
  by_cases c_11 : p0 = 113
  · refine xs_tin (k := 113) (off := 83) (tgt := 84) hx hb dX1_ofLetter_1 c_11 (by decide) (by decide) (by decide) (by decide) (by decide) ?_
    refine lv_bipush (v := (-9)) hx hb dX1_ofLetter_84 (by decide) ?_
    exact hret 86 _ (-9) dX1_ofLetter_86 (by clear hret hP hK hts hown hx hb hml hl; subst_vars; first | (simp [kndOf, c_1, c_2, c_3, c_4, c_5, c_6, c_7, c_8, c_9, c_10, c_11]; done) | (simp_all [kndOf]; done) | (try simp only [kndOf]; (repeat' split) <;> first | rfl | contradiction | (simp_all; done) | (exfalso; simp only [not_and, Int32.lt_iff_toInt_lt, Int32.le_iff_toInt_le] at *; omega)))
  by_cases c_12 : p0 = 114
  · refine xs_tin (k := 114) (off := 83) (tgt := 84) hx hb dX1_ofLetter_1 c_12 (by decide) (by decide) (by decide) (by decide) (by decide) ?_
    refine lv_bipush (v := (-9)) hx hb dX1_ofLetter_84 (by decide) ?_
    exact hret 86 _ (-9) dX1_ofLetter_86 (by clear hret hP hK hts hown hx hb hml hl; subst_vars; first | (simp [kndOf, c_1, c_2, c_3, c_4, c_5, c_6, c_7, c_8, c_9, c_10, c_11, c_12]; done) | (simp_all [kndOf]; done) | (try simp only [kndOf]; (repeat' split) <;> first | rfl | contradiction | (simp_all; done) | (exfalso; simp only [not_and, Int32.lt_iff_toInt_lt, Int32.le_iff_toInt_le] at *; omega)))
  by_cases c_13 : p0 = 115
  · refine xs_tin (k := 115) (off := 83) (tgt := 84) hx hb dX1_ofLetter_1 c_13 (by decide) (by decide) (by decide) (by decide) (by decide) ?_
    refine lv_bipush (v := (-9)) hx hb dX1_ofLetter_84 (by decide) ?_
    exact hret 86 _ (-9) dX1_ofLetter_86 (by clear hret hP hK hts hown hx hb hml hl; subst_vars; first | (simp [kndOf, c_1, c_2, c_3, c_4, c_5, c_6, c_7, c_8, c_9, c_10, c_11, c_12, c_13]; done) | (simp_all [kndOf]; done) | (try simp only [kndOf]; (repeat' split) <;> first | rfl | contradiction | (simp_all; done) | (exfalso; simp only [not_and, Int32.lt_iff_toInt_lt, Int32.le_iff_toInt_le] at *; omega)))
  by_cases c_14 : p0 = 116
  · refine xs_tin (k := 116) (off := 79) (tgt := 80) hx hb dX1_ofLetter_1 c_14 (by decide) (by decide) (by decide) (by decide) (by decide) ?_
    refine lv_iconst (v := 4) hx hb dX1_ofLetter_80 (by decide) ?_
    exact hret 81 _ 4 dX1_ofLetter_81 (by clear hret hP hK hts hown hx hb hml hl; subst_vars; first | (simp [kndOf, c_1, c_2, c_3, c_4, c_5, c_6, c_7, c_8, c_9, c_10, c_11, c_12, c_13, c_14]; done) | (simp_all [kndOf]; done) | (try simp only [kndOf]; (repeat' split) <;> first | rfl | contradiction | (simp_all; done) | (exfalso; simp only [not_and, Int32.lt_iff_toInt_lt, Int32.le_iff_toInt_le] at *; omega)))
  refine xs_tout (tgt := 84) (ks := [103, 104, 105, 106, 107, 108, 109, 110, 111, 112, 113, 114, 115, 116]) hx hb dX1_ofLetter_1 (List.forall_mem_cons.mpr ⟨c_1, List.forall_mem_cons.mpr ⟨c_2, List.forall_mem_cons.mpr ⟨c_3, List.forall_mem_cons.mpr ⟨c_4, List.forall_mem_cons.mpr ⟨c_5, List.forall_mem_cons.mpr ⟨c_6, List.forall_mem_cons.mpr ⟨c_7, List.forall_mem_cons.mpr ⟨c_8, List.forall_mem_cons.mpr ⟨c_9, List.forall_mem_cons.mpr ⟨c_10, List.forall_mem_cons.mpr ⟨c_11, List.forall_mem_cons.mpr ⟨c_12, List.forall_mem_cons.mpr ⟨c_13, List.forall_mem_cons.mpr ⟨c_14, fun _ h => absurd h List.not_mem_nil⟩⟩⟩⟩⟩⟩⟩⟩⟩⟩⟩⟩⟩⟩) (by decide) (by decide) ?_
  refine lv_bipush (v := (-9)) hx hb dX1_ofLetter_84 (by decide) ?_
  exact hret 86 _ (-9) dX1_ofLetter_86 (by clear hret hP hK hts hown hx hb hml hl; subst_vars; first | (simp [kndOf, c_1, c_2, c_3, c_4, c_5, c_6, c_7, c_8, c_9, c_10, c_11, c_12, c_13, c_14]; done) | (simp_all [kndOf]; done) | (try simp only [kndOf]; (repeat' split) <;> first | rfl | contradiction | (simp_all; done) | (exfalso; simp only [not_and, Int32.lt_iff_toInt_lt, Int32.le_iff_toInt_le] at *; omega)))

set_option maxHeartbeats 4000000 in
set_option maxRecDepth 100000 in
theorem kX0_fits (l : Launch) (D : va_G) (cI : ClassId) (p0 p1 p2 : Int32) (t0 : Nat) (hp2 : p2 = nI t0) (ht0 : t0 ≤ 1000) : Met l yX0_fits wsX0_fits ({ frames := 1, cells := 0, slots := 0, locals := 20 }) (PRO D cI [.int p0, .int p1, .int p2] []) (vp_Si (fun v => v = (if ftB p0 p1 t0 = true then 1 else 0))) 0 0 (fun _ => False) := by
  refine st_roi (cc := cX0_fits) (maxL := 3) (rt := .boolean) (by decide) rfl (Nat.le_of_ble_eq_true rfl) (by intro v h; subst h; split <;> rfl) ?_
  intro p e s m below meth c Q ls hx hb hml hts hown hP hK hl hret
  replace hown : s.vm.findClass RX0 = some m.cls := hown
  replace hl : lv_has ls 3 [(0, .int p0), (1, .int p1), (2, .int p2)] := hl
  refine lv_iload_n hx hb dX0_fits_0 rfl (lv_at hl 2 rfl) ?_
  refine lv_if_ne (tgt := 17) hx hb dX0_fits_1 (by decide) (fun c_1 => ?_) (fun c_1 => ?_)
  · skip
    have n_1 : ¬ t0 = 0 := fun q => c_1 ((ni_eq (a := t0) (b := 0) hp2 (rfl : (0 : Int32) = nI 0) (by omega) (by decide)).mpr q)
    refine lv_iload_n hx hb dX0_fits_17 rfl (lv_at hl 2 rfl) ?_
    refine lv_iload_n hx hb dX0_fits_18 rfl (lv_at hl 1 rfl) ?_
    refine xc_Si (As := [.int p1]) (rest := [.int p2]) ⟨hx, hb, hml, hown, hts⟩ (kX0_lengthOf l D cI p1) (va_cwS 1 hts gX0_fits_X0_lengthOf rfl rfl rfl hs_X0_lengthOf ⟨Nat.le_of_ble_eq_true rfl, Nat.le_of_ble_eq_true rfl⟩) hK hP [] rfl rfl hl.1 rfl (Nat.le_of_ble_eq_true rfl) dX0_fits_19 ⟨Nat.zero_le _, Nat.zero_le _⟩ (fun r_2 hr_2 => ?_)
    have hln_2 := lnN_le p1
    refine lv_iconst (v := 1) hx hb dX0_fits_22 (by decide) ?_
    refine lv_isub hx hb dX0_fits_23 ?_
    refine lv_icmp_ne (tgt := 39) hx hb dX0_fits_24 (by decide) (fun c_3 => ?_) (fun c_3 => ?_)
    · skip
      refine lv_iload_n hx hb dX0_fits_39 rfl (lv_at hl 1 rfl) ?_
      refine lv_bipush (v := 115) hx hb dX0_fits_40 (by decide) ?_
      refine lv_icmp_ne (tgt := 65) hx hb dX0_fits_42 (by decide) (fun c_4 => ?_) (fun c_4 => ?_)
      · skip
        refine lv_iload_n hx hb dX0_fits_65 rfl (lv_at hl 0 rfl) ?_
        refine lv_bipush (v := 48) hx hb dX0_fits_66 (by decide) ?_
        refine lv_icmp_lt (tgt := 81) hx hb dX0_fits_68 (by decide) (fun c_5 => ?_) (fun c_5 => ?_)
        · skip
          refine lv_iconst (v := 0) hx hb dX0_fits_81 (by decide) ?_
          exact hret 82 _ 0 dX0_fits_82 (by have h9 : ¬ t0 = 0 := (by omega); have hq := eq_len hp2 hr_2 (by omega) (by omega); have h7 : ¬ t0 + 1 = lnN p1 := fun z => c_3 (hq.2 z); rw [ft_3 h9 h7 (fun z => c_4 z.1)]; rw [isI_neg c_5]; rfl)
        refine lv_iload_n hx hb dX0_fits_71 rfl (lv_at hl 0 rfl) ?_
        refine lv_bipush (v := 57) hx hb dX0_fits_72 (by decide) ?_
        refine lv_icmp_gt (tgt := 81) hx hb dX0_fits_74 (by decide) (fun c_6 => ?_) (fun c_6 => ?_)
        · skip
          refine lv_iconst (v := 0) hx hb dX0_fits_81 (by decide) ?_
          exact hret 82 _ 0 dX0_fits_82 (by have h9 : ¬ t0 = 0 := (by omega); have hq := eq_len hp2 hr_2 (by omega) (by omega); have h7 : ¬ t0 + 1 = lnN p1 := fun z => c_3 (hq.2 z); rw [ft_3 h9 h7 (fun z => c_4 z.1)]; rw [isI_hi c_6]; rfl)
        refine lv_iconst (v := 1) hx hb dX0_fits_77 (by decide) ?_
        refine lv_goto (tgt := 82) hx hb dX0_fits_78 (by decide) ?_
        exact hret 82 _ 1 dX0_fits_82 (by have h9 : ¬ t0 = 0 := (by omega); have hq := eq_len hp2 hr_2 (by omega) (by omega); have h7 : ¬ t0 + 1 = lnN p1 := fun z => c_3 (hq.2 z); rw [ft_3 h9 h7 (fun z => c_4 z.1)]; rw [show isI p0 48 57 = true by rw [isI, decide_eq_true_eq]; exact ⟨Int32.not_lt.1 c_5, Int32.not_lt.1 c_6⟩]; rfl)
      refine lv_iload_n hx hb dX0_fits_45 rfl (lv_at hl 2 rfl) ?_
      refine lv_iconst (v := 1) hx hb dX0_fits_46 (by decide) ?_
      refine lv_icmp_ne (tgt := 65) hx hb dX0_fits_47 (by decide) (fun c_7 => ?_) (fun c_7 => ?_)
      · skip
        have n_7 : ¬ t0 = 1 := fun q => c_7 ((ni_eq (a := t0) (b := 1) hp2 (rfl : (1 : Int32) = nI 1) (by omega) (by decide)).mpr q)
        refine lv_iload_n hx hb dX0_fits_65 rfl (lv_at hl 0 rfl) ?_
        refine lv_bipush (v := 48) hx hb dX0_fits_66 (by decide) ?_
        refine lv_icmp_lt (tgt := 81) hx hb dX0_fits_68 (by decide) (fun c_8 => ?_) (fun c_8 => ?_)
        · skip
          refine lv_iconst (v := 0) hx hb dX0_fits_81 (by decide) ?_
          exact hret 82 _ 0 dX0_fits_82 (by have h9 : ¬ t0 = 0 := (by omega); have hq := eq_len hp2 hr_2 (by omega) (by omega); have h7 : ¬ t0 + 1 = lnN p1 := fun z => c_3 (hq.2 z); rw [ft_3 h9 h7 (fun z => absurd z.2 (by omega))]; rw [isI_neg c_8]; rfl)
        refine lv_iload_n hx hb dX0_fits_71 rfl (lv_at hl 0 rfl) ?_
        refine lv_bipush (v := 57) hx hb dX0_fits_72 (by decide) ?_
        refine lv_icmp_gt (tgt := 81) hx hb dX0_fits_74 (by decide) (fun c_9 => ?_) (fun c_9 => ?_)
        · skip
          refine lv_iconst (v := 0) hx hb dX0_fits_81 (by decide) ?_
          exact hret 82 _ 0 dX0_fits_82 (by have h9 : ¬ t0 = 0 := (by omega); have hq := eq_len hp2 hr_2 (by omega) (by omega); have h7 : ¬ t0 + 1 = lnN p1 := fun z => c_3 (hq.2 z); rw [ft_3 h9 h7 (fun z => absurd z.2 (by omega))]; rw [isI_hi c_9]; rfl)
        refine lv_iconst (v := 1) hx hb dX0_fits_77 (by decide) ?_
        refine lv_goto (tgt := 82) hx hb dX0_fits_78 (by decide) ?_
        exact hret 82 _ 1 dX0_fits_82 (by have h9 : ¬ t0 = 0 := (by omega); have hq := eq_len hp2 hr_2 (by omega) (by omega); have h7 : ¬ t0 + 1 = lnN p1 := fun z => c_3 (hq.2 z); rw [ft_3 h9 h7 (fun z => absurd z.2 (by omega))]; rw [show isI p0 48 57 = true by rw [isI, decide_eq_true_eq]; exact ⟨Int32.not_lt.1 c_8, Int32.not_lt.1 c_9⟩]; rfl)
      have n_7 : t0 = 1 := (ni_eq (a := t0) (b := 1) hp2 (rfl : (1 : Int32) = nI 1) (by omega) (by decide)).mp c_7
      refine lv_iload_n hx hb dX0_fits_50 rfl (lv_at hl 0 rfl) ?_
      refine xc_Si (As := [.int p0]) (rest := []) ⟨hx, hb, hml, hown, hts⟩ (kX1_ofLetter l D cI p0) (va_cwS 1 hts gX0_fits_X1_ofLetter rfl rfl rfl hs_X1_ofLetter ⟨Nat.le_of_ble_eq_true rfl, Nat.le_of_ble_eq_true rfl⟩) hK hP [] rfl rfl hl.1 rfl (Nat.le_of_ble_eq_true rfl) dX0_fits_51 ⟨Nat.zero_le _, Nat.zero_le _⟩ (fun r_10 hr_10 => ?_)
      refine lv_bipush (v := (-9)) hx hb dX0_fits_54 (by decide) ?_
      refine lv_icmp_eq (tgt := 63) hx hb dX0_fits_56 (by decide) (fun c_11 => ?_) (fun c_11 => ?_)
      · skip
        refine lv_iconst (v := 0) hx hb dX0_fits_63 (by decide) ?_
        exact hret 64 _ 0 dX0_fits_64 (by have h9 : ¬ t0 = 0 := (by omega); have hq := eq_len hp2 hr_2 (by omega) (by omega); have h7 : ¬ t0 + 1 = lnN p1 := fun z => c_3 (hq.2 z); rw [ft_2 h9 h7 ⟨c_4, by omega⟩]; have z := c_11; rw [hr_10] at z; simp [z])
      refine lv_iconst (v := 1) hx hb dX0_fits_59 (by decide) ?_
      refine lv_goto (tgt := 64) hx hb dX0_fits_60 (by decide) ?_
      exact hret 64 _ 1 dX0_fits_64 (by have h9 : ¬ t0 = 0 := (by omega); have hq := eq_len hp2 hr_2 (by omega) (by omega); have h7 : ¬ t0 + 1 = lnN p1 := fun z => c_3 (hq.2 z); rw [ft_2 h9 h7 ⟨c_4, by omega⟩]; have z := c_11; rw [hr_10] at z; simp [z])
    refine lv_iload_n hx hb dX0_fits_27 rfl (lv_at hl 0 rfl) ?_
    refine lv_bipush (v := 59) hx hb dX0_fits_28 (by decide) ?_
    refine lv_icmp_ne (tgt := 37) hx hb dX0_fits_30 (by decide) (fun c_12 => ?_) (fun c_12 => ?_)
    · skip
      refine lv_iconst (v := 0) hx hb dX0_fits_37 (by decide) ?_
      exact hret 38 _ 0 dX0_fits_38 (by have h9 : ¬ t0 = 0 := (by omega); have hq := eq_len hp2 hr_2 (by omega) (by omega); have h7 := hq.1 c_3; rw [ft_1 h9 h7]; simp [c_12])
    refine lv_iconst (v := 1) hx hb dX0_fits_33 (by decide) ?_
    refine lv_goto (tgt := 38) hx hb dX0_fits_34 (by decide) ?_
    exact hret 38 _ 1 dX0_fits_38 (by have h9 : ¬ t0 = 0 := (by omega); have hq := eq_len hp2 hr_2 (by omega) (by omega); have h7 := hq.1 c_3; rw [ft_1 h9 h7]; simp [c_12])
  have n_1 : t0 = 0 := (ni_eq (a := t0) (b := 0) hp2 (rfl : (0 : Int32) = nI 0) (by omega) (by decide)).mp c_1
  refine lv_iload_n hx hb dX0_fits_4 rfl (lv_at hl 0 rfl) ?_
  refine xc_Si (As := [.int p0]) (rest := []) ⟨hx, hb, hml, hown, hts⟩ (kX0_lengthOf l D cI p0) (va_cwS 1 hts gX0_fits_X0_lengthOf rfl rfl rfl hs_X0_lengthOf ⟨Nat.le_of_ble_eq_true rfl, Nat.le_of_ble_eq_true rfl⟩) hK hP [] rfl rfl hl.1 rfl (Nat.le_of_ble_eq_true rfl) dX0_fits_5 ⟨Nat.zero_le _, Nat.zero_le _⟩ (fun r_13 hr_13 => ?_)
  have hln_13 := lnN_le p0
  refine lv_if_le (tgt := 15) hx hb dX0_fits_8 (by decide) (fun c_14 => ?_) (fun c_14 => ?_)
  · skip
    have n_14 : (lnN p0) ≤ 0 := (ni_le (a := (lnN p0)) (b := 0) hr_13 (rfl : (0 : Int32) = nI 0) (by omega) (by decide)).mp c_14
    refine lv_iconst (v := 0) hx hb dX0_fits_15 (by decide) ?_
    exact hret 16 _ 0 dX0_fits_16 (by have h9 : t0 = 0 := (by omega); rw [ftB, if_pos h9, decide_eq_false (show ¬ 0 < lnN p0 by omega)]; rfl)
  have n_14 : ¬ (lnN p0) ≤ 0 := fun q => c_14 ((ni_le (a := (lnN p0)) (b := 0) hr_13 (rfl : (0 : Int32) = nI 0) (by omega) (by decide)).mpr q)
  refine lv_iconst (v := 1) hx hb dX0_fits_11 (by decide) ?_
  refine lv_goto (tgt := 16) hx hb dX0_fits_12 (by decide) ?_
  exact hret 16 _ 1 dX0_fits_16 (by have h9 : t0 = 0 := (by omega); rw [ftB, if_pos h9, decide_eq_true (show 0 < lnN p0 by omega)]; rfl)


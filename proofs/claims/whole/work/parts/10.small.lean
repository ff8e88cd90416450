theorem hs_X1_softOfKind : yX1_softOfKind.cls ≠ "java/lang/invoke/MethodHandle" ∧ yX1_softOfKind.cls ≠ "java/lang/invoke/VarHandle" ∧ (parseMethodDescriptor yX1_softOfKind.desc).map (fun d => d.parameters.length) = some 2 := by decide +kernel
theorem hs_X1_bindsOfKind : yX1_bindsOfKind.cls ≠ "java/lang/invoke/MethodHandle" ∧ yX1_bindsOfKind.cls ≠ "java/lang/invoke/VarHandle" ∧ (parseMethodDescriptor yX1_bindsOfKind.desc).map (fun d => d.parameters.length) = some 2 := by decide +kernel
theorem hs_X1_weighsOfKind : yX1_weighsOfKind.cls ≠ "java/lang/invoke/MethodHandle" ∧ yX1_weighsOfKind.cls ≠ "java/lang/invoke/VarHandle" ∧ (parseMethodDescriptor yX1_weighsOfKind.desc).map (fun d => d.parameters.length) = some 2 := by decide +kernel
theorem hs_X4_isIn : yX4_isIn.cls ≠ "java/lang/invoke/MethodHandle" ∧ yX4_isIn.cls ≠ "java/lang/invoke/VarHandle" ∧ (parseMethodDescriptor yX4_isIn.desc).map (fun d => d.parameters.length) = some 3 := by decide +kernel
theorem hs_X4_least : yX4_least.cls ≠ "java/lang/invoke/MethodHandle" ∧ yX4_least.cls ≠ "java/lang/invoke/VarHandle" ∧ (parseMethodDescriptor yX4_least.desc).map (fun d => d.parameters.length) = some 2 := by decide +kernel
theorem hs_X4_of : yX4_of.cls ≠ "java/lang/invoke/MethodHandle" ∧ yX4_of.cls ≠ "java/lang/invoke/VarHandle" ∧ (parseMethodDescriptor yX4_of.desc).map (fun d => d.parameters.length) = some 2 := by decide +kernel
theorem hs_X4_has : yX4_has.cls ≠ "java/lang/invoke/MethodHandle" ∧ yX4_has.cls ≠ "java/lang/invoke/VarHandle" ∧ (parseMethodDescriptor yX4_has.desc).map (fun d => d.parameters.length) = some 2 := by decide +kernel
theorem hs_X4_bits : yX4_bits.cls ≠ "java/lang/invoke/MethodHandle" ∧ yX4_bits.cls ≠ "java/lang/invoke/VarHandle" ∧ (parseMethodDescriptor yX4_bits.desc).map (fun d => d.parameters.length) = some 1 := by decide +kernel
theorem hs_X4_fresh : yX4_fresh.cls ≠ "java/lang/invoke/MethodHandle" ∧ yX4_fresh.cls ≠ "java/lang/invoke/VarHandle" ∧ (parseMethodDescriptor yX4_fresh.desc).map (fun d => d.parameters.length) = some 2 := by decide +kernel
theorem hs_X4_softOf : yX4_softOf.cls ≠ "java/lang/invoke/MethodHandle" ∧ yX4_softOf.cls ≠ "java/lang/invoke/VarHandle" ∧ (parseMethodDescriptor yX4_softOf.desc).map (fun d => d.parameters.length) = some 2 := by decide +kernel
theorem hs_X4_bindsOf : yX4_bindsOf.cls ≠ "java/lang/invoke/MethodHandle" ∧ yX4_bindsOf.cls ≠ "java/lang/invoke/VarHandle" ∧ (parseMethodDescriptor yX4_bindsOf.desc).map (fun d => d.parameters.length) = some 2 := by decide +kernel
theorem hs_X4_weighsOf : yX4_weighsOf.cls ≠ "java/lang/invoke/MethodHandle" ∧ yX4_weighsOf.cls ≠ "java/lang/invoke/VarHandle" ∧ (parseMethodDescriptor yX4_weighsOf.desc).map (fun d => d.parameters.length) = some 2 := by decide +kernel
theorem hs_X4_sumOf : yX4_sumOf.cls ≠ "java/lang/invoke/MethodHandle" ∧ yX4_sumOf.cls ≠ "java/lang/invoke/VarHandle" ∧ (parseMethodDescriptor yX4_sumOf.desc).map (fun d => d.parameters.length) = some 3 := by decide +kernel
theorem hs_X4_ofHer : yX4_ofHer.cls ≠ "java/lang/invoke/MethodHandle" ∧ yX4_ofHer.cls ≠ "java/lang/invoke/VarHandle" ∧ (parseMethodDescriptor yX4_ofHer.desc).map (fun d => d.parameters.length) = some 3 := by decide +kernel
theorem hs_X4_nestIn : yX4_nestIn.cls ≠ "java/lang/invoke/MethodHandle" ∧ yX4_nestIn.cls ≠ "java/lang/invoke/VarHandle" ∧ (parseMethodDescriptor yX4_nestIn.desc).map (fun d => d.parameters.length) = some 2 := by decide +kernel
theorem hs_X4_holdsSet : yX4_holdsSet.cls ≠ "java/lang/invoke/MethodHandle" ∧ yX4_holdsSet.cls ≠ "java/lang/invoke/VarHandle" ∧ (parseMethodDescriptor yX4_holdsSet.desc).map (fun d => d.parameters.length) = some 2 := by decide +kernel
theorem hs_X4_inNests : yX4_inNests.cls ≠ "java/lang/invoke/MethodHandle" ∧ yX4_inNests.cls ≠ "java/lang/invoke/VarHandle" ∧ (parseMethodDescriptor yX4_inNests.desc).map (fun d => d.parameters.length) = some 1 := by decide +kernel
theorem hs_X4_leastSaid : yX4_leastSaid.cls ≠ "java/lang/invoke/MethodHandle" ∧ yX4_leastSaid.cls ≠ "java/lang/invoke/VarHandle" ∧ (parseMethodDescriptor yX4_leastSaid.desc).map (fun d => d.parameters.length) = some 2 := by decide +kernel
theorem hs_X4_lacksOf : yX4_lacksOf.cls ≠ "java/lang/invoke/MethodHandle" ∧ yX4_lacksOf.cls ≠ "java/lang/invoke/VarHandle" ∧ (parseMethodDescriptor yX4_lacksOf.desc).map (fun d => d.parameters.length) = some 2 := by decide +kernel
theorem hs_X4_softAll : yX4_softAll.cls ≠ "java/lang/invoke/MethodHandle" ∧ yX4_softAll.cls ≠ "java/lang/invoke/VarHandle" ∧ (parseMethodDescriptor yX4_softAll.desc).map (fun d => d.parameters.length) = some 1 := by decide +kernel
theorem hs_X4_wrongBy : yX4_wrongBy.cls ≠ "java/lang/invoke/MethodHandle" ∧ yX4_wrongBy.cls ≠ "java/lang/invoke/VarHandle" ∧ (parseMethodDescriptor yX4_wrongBy.desc).map (fun d => d.parameters.length) = some 3 := by decide +kernel
theorem hs_X4_kindBy : yX4_kindBy.cls ≠ "java/lang/invoke/MethodHandle" ∧ yX4_kindBy.cls ≠ "java/lang/invoke/VarHandle" ∧ (parseMethodDescriptor yX4_kindBy.desc).map (fun d => d.parameters.length) = some 1 := by decide +kernel
set_option maxHeartbeats 4000000 in
set_option maxRecDepth 100000 in
theorem kX1_softOfKind (l : Launch) (D : va_G) (cI : ClassId) (p0 p1 : Int32) : Met l yX1_softOfKind wsX1_softOfKind ({ frames := 0, cells := 0, slots := 0, locals := 0 }) (PRO D cI [.int p0, .int p1] []) (vp_Si (fun v => v = softK p0 p1)) 0 0 (fun _ => False) := by
  refine st_roi (cc := cX1_softOfKind) (maxL := 2) (rt := .int) (by decide) rfl (Nat.le_of_ble_eq_true rfl) (fun _ _ => rfl) ?_
  intro p e s m below meth c Q ls hx hb hml hts hown hP hK hl hret
  replace hown : s.vm.findClass RX1 = some m.cls := hown
  replace hl : lv_has ls 2 [(0, .int p0), (1, .int p1)] := hl
  refine lv_iload_n hx hb dX1_softOfKind_0 rfl (lv_at hl 0 rfl) ?_
  by_cases c_1 : p0 = 1
  · refine xs_tin (k := 1) (off := 35) (tgt := 36) hx hb dX1_softOfKind_1 c_1 (by decide) (by decide) (by decide) (by decide) (by decide) ?_
    refine lv_iload_n hx hb dX1_softOfKind_36 rfl (lv_at hl 1 rfl) ?_
    refine lv_iconst (v := 3) hx hb dX1_softOfKind_37 (by decide) ?_
    refine lv_iadd hx hb dX1_softOfKind_38 ?_
    exact hret 39 _ (p1 + 3) dX1_softOfKind_39 (by clear hret hP hK hts hown hx hb hml hl; subst_vars; first | (simp [softK, c_1]; done) | (simp_all [softK]; done) | (try simp only [softK]; (repeat' split) <;> first | rfl | contradiction | (simp_all; done) | (exfalso; simp only [not_and, Int32.lt_iff_toInt_lt, Int32.le_iff_toInt_le] at *; omega)))
  by_cases c_2 : p0 = 2
  · refine xs_tin (k := 2) (off := 39) (tgt := 40) hx hb dX1_softOfKind_1 c_2 (by decide) (by decide) (by decide) (by decide) (by decide) ?_
    refine lv_iconst (v := 0) hx hb dX1_softOfKind_40 (by decide) ?_
    exact hret 41 _ 0 dX1_softOfKind_41 (by clear hret hP hK hts hown hx hb hml hl; subst_vars; first | (simp [softK, c_1, c_2]; done) | (simp_all [softK]; done) | (try simp only [softK]; (repeat' split) <;> first | rfl | contradiction | (simp_all; done) | (exfalso; simp only [not_and, Int32.lt_iff_toInt_lt, Int32.le_iff_toInt_le] at *; omega)))
  by_cases c_3 : p0 = 3
  · refine xs_tin (k := 3) (off := 41) (tgt := 42) hx hb dX1_softOfKind_1 c_3 (by decide) (by decide) (by decide) (by decide) (by decide) ?_
    refine lv_iload_n hx hb dX1_softOfKind_42 rfl (lv_at hl 1 rfl) ?_
    refine lv_iconst (v := 2) hx hb dX1_softOfKind_43 (by decide) ?_
    refine lv_idiv hx hb dX1_softOfKind_44 (by decide) ?_
    exact hret 45 _ (p1 / 2) dX1_softOfKind_45 (by clear hret hP hK hts hown hx hb hml hl; subst_vars; first | (simp [softK, c_1, c_2, c_3]; done) | (simp_all [softK]; done) | (try simp only [softK]; (repeat' split) <;> first | rfl | contradiction | (simp_all; done) | (exfalso; simp only [not_and, Int32.lt_iff_toInt_lt, Int32.le_iff_toInt_le] at *; omega)))
  by_cases c_4 : p0 = 4
  · refine xs_tin (k := 4) (off := 45) (tgt := 46) hx hb dX1_softOfKind_1 c_4 (by decide) (by decide) (by decide) (by decide) (by decide) ?_
    refine lv_iconst (v := 1) hx hb dX1_softOfKind_46 (by decide) ?_
    exact hret 47 _ 1 dX1_softOfKind_47 (by clear hret hP hK hts hown hx hb hml hl; subst_vars; first | (simp [softK, c_1, c_2, c_3, c_4]; done) | (simp_all [softK]; done) | (try simp only [softK]; (repeat' split) <;> first | rfl | contradiction | (simp_all; done) | (exfalso; simp only [not_and, Int32.lt_iff_toInt_lt, Int32.le_iff_toInt_le] at *; omega)))
  by_cases c_5 : p0 = 5
  · refine xs_tin (k := 5) (off := 47) (tgt := 48) hx hb dX1_softOfKind_1 c_5 (by decide) (by decide) (by decide) (by decide) (by decide) ?_
    refine lv_iload_n hx hb dX1_softOfKind_48 rfl (lv_at hl 1 rfl) ?_
    refine lv_iconst (v := 4) hx hb dX1_softOfKind_49 (by decide) ?_
    refine lv_icmp_le (tgt := 61) hx hb dX1_softOfKind_50 (by decide) (fun c_6 => ?_) (fun c_6 => ?_)
    · skip
      refine lv_iconst (v := 0) hx hb dX1_softOfKind_61 (by decide) ?_
      exact hret 62 _ 0 dX1_softOfKind_62 (by clear hret hP hK hts hown hx hb hml hl; subst_vars; first | (simp [softK, c_1, c_2, c_3, c_4, c_5, c_6]; done) | (simp_all [softK]; done) | (try simp only [softK]; (repeat' split) <;> first | rfl | contradiction | (simp_all; done) | (exfalso; simp only [not_and, Int32.lt_iff_toInt_lt, Int32.le_iff_toInt_le] at *; omega)))
    refine lv_iconst (v := 2) hx hb dX1_softOfKind_53 (by decide) ?_
    refine lv_iload_n hx hb dX1_softOfKind_54 rfl (lv_at hl 1 rfl) ?_
    refine lv_iconst (v := 3) hx hb dX1_softOfKind_55 (by decide) ?_
    refine lv_iadd hx hb dX1_softOfKind_56 ?_
    refine lv_imul hx hb dX1_softOfKind_57 ?_
    refine lv_goto (tgt := 62) hx hb dX1_softOfKind_58 (by decide) ?_
    exact hret 62 _ (2 * (p1 + 3)) dX1_softOfKind_62 (by clear hret hP hK hts hown hx hb hml hl; subst_vars; first | (simp [softK, c_1, c_2, c_3, c_4, c_5, c_6]; done) | (simp_all [softK]; done) | (try simp only [softK]; (repeat' split) <;> first | rfl | contradiction | (simp_all; done) | (exfalso; simp only [not_and, Int32.lt_iff_toInt_lt, Int32.le_iff_toInt_le] at *; omega)))
  refine xs_tout (tgt := 63) (ks := [1, 2, 3, 4, 5]) hx hb dX1_softOfKind_1 (List.forall_mem_cons.mpr ⟨c_1, List.forall_mem_cons.mpr ⟨c_2, List.forall_mem_cons.mpr ⟨c_3, List.forall_mem_cons.mpr ⟨c_4, List.forall_mem_cons.mpr ⟨c_5, fun _ h => absurd h List.not_mem_nil⟩⟩⟩⟩⟩) (by decide) (by decide) ?_
  refine lv_iload_n hx hb dX1_softOfKind_63 rfl (lv_at hl 1 rfl) ?_
  exact hret 64 _ p1 dX1_softOfKind_64 (by clear hret hP hK hts hown hx hb hml hl; subst_vars; first | (simp [softK, c_1, c_2, c_3, c_4, c_5]; done) | (simp_all [softK]; done) | (try simp only [softK]; (repeat' split) <;> first | rfl | contradiction | (simp_all; done) | (exfalso; simp only [not_and, Int32.lt_iff_toInt_lt, Int32.le_iff_toInt_le] at *; omega)))

set_option maxHeartbeats 4000000 in
set_option maxRecDepth 100000 in
theorem kX1_bindsOfKind (l : Launch) (D : va_G) (cI : ClassId) (p0 p1 : Int32) : Met l yX1_bindsOfKind wsX1_bindsOfKind ({ frames := 0, cells := 0, slots := 0, locals := 0 }) (PRO D cI [.int p0, .int p1] []) (vp_Si (fun v => v = bindsK p0 p1)) 0 0 (fun _ => False) := by
  refine st_roi (cc := cX1_bindsOfKind) (maxL := 2) (rt := .int) (by decide) rfl (Nat.le_of_ble_eq_true rfl) (fun _ _ => rfl) ?_
  intro p e s m below meth c Q ls hx hb hml hts hown hP hK hl hret
  replace hown : s.vm.findClass RX1 = some m.cls := hown
  replace hl : lv_has ls 2 [(0, .int p0), (1, .int p1)] := hl
  refine lv_iload_n hx hb dX1_bindsOfKind_0 rfl (lv_at hl 0 rfl) ?_
  by_cases c_1 : p0 = 1
  · refine xs_tin (k := 1) (off := 35) (tgt := 36) hx hb dX1_bindsOfKind_1 c_1 (by decide) (by decide) (by decide) (by decide) (by decide) ?_
    refine lv_iconst (v := 0) hx hb dX1_bindsOfKind_36 (by decide) ?_
    exact hret 37 _ 0 dX1_bindsOfKind_37 (by clear hret hP hK hts hown hx hb hml hl; subst_vars; first | (simp [bindsK, c_1]; done) | (simp_all [bindsK]; done) | (try simp only [bindsK]; (repeat' split) <;> first | rfl | contradiction | (simp_all; done) | (exfalso; simp only [not_and, Int32.lt_iff_toInt_lt, Int32.le_iff_toInt_le] at *; omega)))
  by_cases c_2 : p0 = 2
  · refine xs_tin (k := 2) (off := 37) (tgt := 38) hx hb dX1_bindsOfKind_1 c_2 (by decide) (by decide) (by decide) (by decide) (by decide) ?_
    refine lv_iload_n hx hb dX1_bindsOfKind_38 rfl (lv_at hl 1 rfl) ?_
    refine lv_iconst (v := 2) hx hb dX1_bindsOfKind_39 (by decide) ?_
    refine lv_idiv hx hb dX1_bindsOfKind_40 (by decide) ?_
    refine lv_iconst (v := 2) hx hb dX1_bindsOfKind_41 (by decide) ?_
    refine lv_iadd hx hb dX1_bindsOfKind_42 ?_
    exact hret 43 _ ((p1 / 2) + 2) dX1_bindsOfKind_43 (by clear hret hP hK hts hown hx hb hml hl; subst_vars; first | (simp [bindsK, c_1, c_2]; done) | (simp_all [bindsK]; done) | (try simp only [bindsK]; (repeat' split) <;> first | rfl | contradiction | (simp_all; done) | (exfalso; simp only [not_and, Int32.lt_iff_toInt_lt, Int32.le_iff_toInt_le] at *; omega)))
  by_cases c_3 : p0 = 3
  · refine xs_tin (k := 3) (off := 49) (tgt := 50) hx hb dX1_bindsOfKind_1 c_3 (by decide) (by decide) (by decide) (by decide) (by decide) ?_
    refine lv_iconst (v := 1) hx hb dX1_bindsOfKind_50 (by decide) ?_
    exact hret 51 _ 1 dX1_bindsOfKind_51 (by clear hret hP hK hts hown hx hb hml hl; subst_vars; first | (simp [bindsK, c_1, c_2, c_3]; done) | (simp_all [bindsK]; done) | (try simp only [bindsK]; (repeat' split) <;> first | rfl | contradiction | (simp_all; done) | (exfalso; simp only [not_and, Int32.lt_iff_toInt_lt, Int32.le_iff_toInt_le] at *; omega)))
  by_cases c_4 : p0 = 4
  · refine xs_tin (k := 4) (off := 43) (tgt := 44) hx hb dX1_bindsOfKind_1 c_4 (by decide) (by decide) (by decide) (by decide) (by decide) ?_
    refine lv_iload_n hx hb dX1_bindsOfKind_44 rfl (lv_at hl 1 rfl) ?_
    refine lv_iconst (v := 2) hx hb dX1_bindsOfKind_45 (by decide) ?_
    refine lv_idiv hx hb dX1_bindsOfKind_46 (by decide) ?_
    refine lv_iconst (v := 5) hx hb dX1_bindsOfKind_47 (by decide) ?_
    refine lv_iadd hx hb dX1_bindsOfKind_48 ?_
    exact hret 49 _ ((p1 / 2) + 5) dX1_bindsOfKind_49 (by clear hret hP hK hts hown hx hb hml hl; subst_vars; first | (simp [bindsK, c_1, c_2, c_3, c_4]; done) | (simp_all [bindsK]; done) | (try simp only [bindsK]; (repeat' split) <;> first | rfl | contradiction | (simp_all; done) | (exfalso; simp only [not_and, Int32.lt_iff_toInt_lt, Int32.le_iff_toInt_le] at *; omega)))
  by_cases c_5 : p0 = 5
  · refine xs_tin (k := 5) (off := 35) (tgt := 36) hx hb dX1_bindsOfKind_1 c_5 (by decide) (by decide) (by decide) (by decide) (by decide) ?_
    refine lv_iconst (v := 0) hx hb dX1_bindsOfKind_36 (by decide) ?_
    exact hret 37 _ 0 dX1_bindsOfKind_37 (by clear hret hP hK hts hown hx hb hml hl; subst_vars; first | (simp [bindsK, c_1, c_2, c_3, c_4, c_5]; done) | (simp_all [bindsK]; done) | (try simp only [bindsK]; (repeat' split) <;> first | rfl | contradiction | (simp_all; done) | (exfalso; simp only [not_and, Int32.lt_iff_toInt_lt, Int32.le_iff_toInt_le] at *; omega)))
  refine xs_tout (tgt := 50) (ks := [1, 2, 3, 4, 5]) hx hb dX1_bindsOfKind_1 (List.forall_mem_cons.mpr ⟨c_1, List.forall_mem_cons.mpr ⟨c_2, List.forall_mem_cons.mpr ⟨c_3, List.forall_mem_cons.mpr ⟨c_4, List.forall_mem_cons.mpr ⟨c_5, fun _ h => absurd h List.not_mem_nil⟩⟩⟩⟩⟩) (by decide) (by decide) ?_
  refine lv_iconst (v := 1) hx hb dX1_bindsOfKind_50 (by decide) ?_
  exact hret 51 _ 1 dX1_bindsOfKind_51 (by clear hret hP hK hts hown hx hb hml hl; subst_vars; first | (simp [bindsK, c_1, c_2, c_3, c_4, c_5]; done) | (simp_all [bindsK]; done) | (try simp only [bindsK]; (repeat' split) <;> first | rfl | contradiction | (simp_all; done) | (exfalso; simp only [not_and, Int32.lt_iff_toInt_lt, Int32.le_iff_toInt_le] at *; omega)))

set_option maxHeartbeats 4000000 in
set_option maxRecDepth 100000 in
theorem kX1_weighsOfKind (l : Launch) (D : va_G) (cI : ClassId) (p0 p1 : Int32) : Met l yX1_weighsOfKind wsX1_weighsOfKind ({ frames := 0, cells := 0, slots := 0, locals := 0 }) (PRO D cI [.int p0, .int p1] []) (vp_Si (fun v => v = weighsK p0 p1)) 0 0 (fun _ => False) := by
  refine st_roi (cc := cX1_weighsOfKind) (maxL := 2) (rt := .int) (by decide) rfl (Nat.le_of_ble_eq_true rfl) (fun _ _ => rfl) ?_
  intro p e s m below meth c Q ls hx hb hml hts hown hP hK hl hret
  replace hown : s.vm.findClass RX1 = some m.cls := hown
  replace hl : lv_has ls 2 [(0, .int p0), (1, .int p1)] := hl
  refine lv_iload_n hx hb dX1_weighsOfKind_0 rfl (lv_at hl 0 rfl) ?_
  by_cases c_1 : p0 = 2
  · refine xs_tin (k := 2) (off := 27) (tgt := 28) hx hb dX1_weighsOfKind_1 c_1 (by decide) (by decide) (by decide) (by decide) (by decide) ?_
    refine lv_iconst (v := 2) hx hb dX1_weighsOfKind_28 (by decide) ?_
    exact hret 29 _ 2 dX1_weighsOfKind_29 (by clear hret hP hK hts hown hx hb hml hl; subst_vars; first | (simp [weighsK, c_1]; done) | (simp_all [weighsK]; done) | (try simp only [weighsK]; (repeat' split) <;> first | rfl | contradiction | (simp_all; done) | (exfalso; simp only [not_and, Int32.lt_iff_toInt_lt, Int32.le_iff_toInt_le] at *; omega)))
  by_cases c_2 : p0 = 3
  · refine xs_tin (k := 3) (off := 29) (tgt := 30) hx hb dX1_weighsOfKind_1 c_2 (by decide) (by decide) (by decide) (by decide) (by decide) ?_
    refine lv_iload_n hx hb dX1_weighsOfKind_30 rfl (lv_at hl 1 rfl) ?_
    refine lv_iconst (v := 3) hx hb dX1_weighsOfKind_31 (by decide) ?_
    refine lv_icmp_ge (tgt := 39) hx hb dX1_weighsOfKind_32 (by decide) (fun c_3 => ?_) (fun c_3 => ?_)
    · skip
      refine lv_iconst (v := 1) hx hb dX1_weighsOfKind_39 (by decide) ?_
      exact hret 40 _ 1 dX1_weighsOfKind_40 (by clear hret hP hK hts hown hx hb hml hl; subst_vars; first | (simp [weighsK, c_1, c_2, c_3]; done) | (simp_all [weighsK]; done) | (try simp only [weighsK]; (repeat' split) <;> first | rfl | contradiction | (simp_all; done) | (exfalso; simp only [not_and, Int32.lt_iff_toInt_lt, Int32.le_iff_toInt_le] at *; omega)))
    refine lv_iconst (v := 0) hx hb dX1_weighsOfKind_35 (by decide) ?_
    refine lv_goto (tgt := 40) hx hb dX1_weighsOfKind_36 (by decide) ?_
    exact hret 40 _ 0 dX1_weighsOfKind_40 (by clear hret hP hK hts hown hx hb hml hl; subst_vars; first | (simp [weighsK, c_1, c_2, c_3]; done) | (simp_all [weighsK]; done) | (try simp only [weighsK]; (repeat' split) <;> first | rfl | contradiction | (simp_all; done) | (exfalso; simp only [not_and, Int32.lt_iff_toInt_lt, Int32.le_iff_toInt_le] at *; omega)))
  by_cases c_4 : p0 = 4
  · refine xs_tin (k := 4) (off := 40) (tgt := 41) hx hb dX1_weighsOfKind_1 c_4 (by decide) (by decide) (by decide) (by decide) (by decide) ?_
    refine lv_iconst (v := 3) hx hb dX1_weighsOfKind_41 (by decide) ?_
    exact hret 42 _ 3 dX1_weighsOfKind_42 (by clear hret hP hK hts hown hx hb hml hl; subst_vars; first | (simp [weighsK, c_1, c_2, c_4]; done) | (simp_all [weighsK]; done) | (try simp only [weighsK]; (repeat' split) <;> first | rfl | contradiction | (simp_all; done) | (exfalso; simp only [not_and, Int32.lt_iff_toInt_lt, Int32.le_iff_toInt_le] at *; omega)))
  refine xs_tout (tgt := 43) (ks := [2, 3, 4]) hx hb dX1_weighsOfKind_1 (List.forall_mem_cons.mpr ⟨c_1, List.forall_mem_cons.mpr ⟨c_2, List.forall_mem_cons.mpr ⟨c_4, fun _ h => absurd h List.not_mem_nil⟩⟩⟩) (by decide) (by decide) ?_
  refine lv_iconst (v := 1) hx hb dX1_weighsOfKind_43 (by decide) ?_
  exact hret 44 _ 1 dX1_weighsOfKind_44 (by clear hret hP hK hts hown hx hb hml hl; subst_vars; first | (simp [weighsK, c_1, c_2, c_4]; done) | (simp_all [weighsK]; done) | (try simp only [weighsK]; (repeat' split) <;> first | rfl | contradiction | (simp_all; done) | (exfalso; simp only [not_and, Int32.lt_iff_toInt_lt, Int32.le_iff_toInt_le] at *; omega)))

set_option maxHeartbeats 4000000 in
set_option maxRecDepth 100000 in
theorem kX4_isIn (l : Launch) (D : va_G) (cI : ClassId) (p0 p1 p2 : Int32) : Met l yX4_isIn wsX4_isIn ({ frames := 0, cells := 0, slots := 0, locals := 0 }) (PRO D cI [.int p0, .int p1, .int p2] []) (vp_Si (fun v => v = (if p1 ≤ p0 ∧ p0 ≤ p2 then 1 else 0))) 0 0 (fun _ => False) := by
  refine st_roi (cc := cX4_isIn) (maxL := 3) (rt := .boolean) (by decide) rfl (Nat.le_of_ble_eq_true rfl) (by intro v h; subst h; split <;> rfl) ?_
  intro p e s m below meth c Q ls hx hb hml hts hown hP hK hl hret
  replace hown : s.vm.findClass RX4 = some m.cls := hown
  replace hl : lv_has ls 3 [(0, .int p0), (1, .int p1), (2, .int p2)] := hl
  refine lv_iload_n hx hb dX4_isIn_0 rfl (lv_at hl 0 rfl) ?_
  refine lv_iload_n hx hb dX4_isIn_1 rfl (lv_at hl 1 rfl) ?_
  refine lv_icmp_lt (tgt := 14) hx hb dX4_isIn_2 (by decide) (fun c_1 => ?_) (fun c_1 => ?_)
  · skip
    refine lv_iconst (v := 0) hx hb dX4_isIn_14 (by decide) ?_
    exact hret 15 _ 0 dX4_isIn_15 (by clear hret hP hK hts hown hx hb hml hl; subst_vars; first | (simp [c_1]; done) | (simp_all []; done) | ((repeat' split) <;> first | rfl | contradiction | (simp_all; done) | (exfalso; simp only [not_and, Int32.lt_iff_toInt_lt, Int32.le_iff_toInt_le] at *; omega)))
  refine lv_iload_n hx hb dX4_isIn_5 rfl (lv_at hl 0 rfl) ?_
  refine lv_iload_n hx hb dX4_isIn_6 rfl (lv_at hl 2 rfl) ?_
  refine lv_icmp_gt (tgt := 14) hx hb dX4_isIn_7 (by decide) (fun c_2 => ?_) (fun c_2 => ?_)
  · skip
    refine lv_iconst (v := 0) hx hb dX4_isIn_14 (by decide) ?_
    exact hret 15 _ 0 dX4_isIn_15 (by clear hret hP hK hts hown hx hb hml hl; subst_vars; first | (simp [c_1, c_2]; done) | (simp_all []; done) | ((repeat' split) <;> first | rfl | contradiction | (simp_all; done) | (exfalso; simp only [not_and, Int32.lt_iff_toInt_lt, Int32.le_iff_toInt_le] at *; omega)))
  refine lv_iconst (v := 1) hx hb dX4_isIn_10 (by decide) ?_
  refine lv_goto (tgt := 15) hx hb dX4_isIn_11 (by decide) ?_
  exact hret 15 _ 1 dX4_isIn_15 (by clear hret hP hK hts hown hx hb hml hl; subst_vars; first | (simp [c_1, c_2]; done) | (simp_all []; done) | ((repeat' split) <;> first | rfl | contradiction | (simp_all; done) | (exfalso; simp only [not_and, Int32.lt_iff_toInt_lt, Int32.le_iff_toInt_le] at *; omega)))

set_option maxHeartbeats 4000000 in
set_option maxRecDepth 100000 in
theorem kX4_least (l : Launch) (D : va_G) (cI : ClassId) (p0 p1 : Int32) : Met l yX4_least wsX4_least ({ frames := 0, cells := 0, slots := 0, locals := 0 }) (PRO D cI [.int p0, .int p1] []) (vp_Si (fun v => v = lst p0 p1)) 0 0 (fun _ => False) := by
  refine st_roi (cc := cX4_least) (maxL := 2) (rt := .int) (by decide) rfl (Nat.le_of_ble_eq_true rfl) (fun _ _ => rfl) ?_
  intro p e s m below meth c Q ls hx hb hml hts hown hP hK hl hret
  replace hown : s.vm.findClass RX4 = some m.cls := hown
  replace hl : lv_has ls 2 [(0, .int p0), (1, .int p1)] := hl
  refine lv_iload_n hx hb dX4_least_0 rfl (lv_at hl 0 rfl) ?_
  refine lv_iload_n hx hb dX4_least_1 rfl (lv_at hl 1 rfl) ?_
  refine lv_icmp_ge (tgt := 9) hx hb dX4_least_2 (by decide) (fun c_1 => ?_) (fun c_1 => ?_)
  · skip
    refine lv_iload_n hx hb dX4_least_9 rfl (lv_at hl 1 rfl) ?_
    exact hret 10 _ p1 dX4_least_10 (by clear hret hP hK hts hown hx hb hml hl; subst_vars; first | (simp [lst, c_1]; done) | (simp_all [lst]; done) | (try simp only [lst]; (repeat' split) <;> first | rfl | contradiction | (simp_all; done) | (exfalso; simp only [not_and, Int32.lt_iff_toInt_lt, Int32.le_iff_toInt_le] at *; omega)))
  refine lv_iload_n hx hb dX4_least_5 rfl (lv_at hl 0 rfl) ?_
  refine lv_goto (tgt := 10) hx hb dX4_least_6 (by decide) ?_
  exact hret 10 _ p0 dX4_least_10 (by clear hret hP hK hts hown hx hb hml hl; subst_vars; first | (simp [lst, c_1]; done) | (simp_all [lst]; done) | (try simp only [lst]; (repeat' split) <;> first | rfl | contradiction | (simp_all; done) | (exfalso; simp only [not_and, Int32.lt_iff_toInt_lt, Int32.le_iff_toInt_le] at *; omega)))

set_option maxHeartbeats 4000000 in
set_option maxRecDepth 100000 in
theorem kX4_of (l : Launch) (D : va_G) (cI : ClassId) (x y : Int32) (i k : Nat) (hx1 : x = nI i) (hy1 : y = nI k) : Met l yX4_of wsX4_of ({ frames := 0, cells := 0, slots := 0, locals := 0 }) (PRO D cI [.int x, .int y] []) (vp_Si (fun v => v = nI (oF i k))) 0 0 (fun _ => False) := by
  refine st_roi (cc := cX4_of) (maxL := 2) (rt := .int) (by decide) rfl (Nat.le_of_ble_eq_true rfl) (fun _ _ => rfl) ?_
  intro p e s m below meth c Q ls hx hb hml hts hown hP hK hl hret
  replace hown : s.vm.findClass RX4 = some m.cls := hown
  replace hl : lv_has ls 2 [(0, .int x), (1, .int y)] := hl
  refine lv_iconst (v := 4) hx hb dX4_of_0 (by decide) ?_
  refine lv_iconst (v := 5) hx hb dX4_of_1 (by decide) ?_
  refine lv_iload_n hx hb dX4_of_2 rfl (lv_at hl 0 rfl) ?_
  refine lv_imul hx hb dX4_of_3 ?_
  refine lv_iadd hx hb dX4_of_4 ?_
  refine lv_iload_n hx hb dX4_of_5 rfl (lv_at hl 1 rfl) ?_
  refine lv_iadd hx hb dX4_of_6 ?_
  exact hret 7 _ ((4 + (5 * x)) + y) dX4_of_7 (oF_of rfl hx1 hy1)

set_option maxHeartbeats 4000000 in
set_option maxRecDepth 100000 in
theorem kX4_has (l : Launch) (D : va_G) (cI : ClassId) (x y : Int32) (i : Nat) (hy1 : y = nI i) (hi1 : i < 32) : Met l yX4_has wsX4_has ({ frames := 0, cells := 0, slots := 0, locals := 0 }) (PRO D cI [.int x, .int y] []) (vp_Si (fun v => v = (if bt x i = true then 1 else 0))) 0 0 (fun _ => False) := by
  refine st_roi (cc := cX4_has) (maxL := 2) (rt := .boolean) (by decide) rfl (Nat.le_of_ble_eq_true rfl) (by intro v h; subst h; split <;> rfl) ?_
  intro p e s m below meth c Q ls hx hb hml hts hown hP hK hl hret
  replace hown : s.vm.findClass RX4 = some m.cls := hown
  replace hl : lv_has ls 2 [(0, .int x), (1, .int y)] := hl
  refine lv_iload_n hx hb dX4_has_0 rfl (lv_at hl 0 rfl) ?_
  refine lv_iload_n hx hb dX4_has_1 rfl (lv_at hl 1 rfl) ?_
  refine lv_ishr hx hb dX4_has_2 ?_
  refine lv_iconst (v := 1) hx hb dX4_has_3 (by decide) ?_
  refine lv_iand hx hb dX4_has_4 ?_
  refine lv_iconst (v := 1) hx hb dX4_has_5 (by decide) ?_
  refine lv_icmp_ne (tgt := 13) hx hb dX4_has_6 (by decide) (fun c_1 => ?_) (fun c_1 => ?_)
  · skip
    refine lv_iconst (v := 0) hx hb dX4_has_13 (by decide) ?_
    exact hret 14 _ 0 dX4_has_14 (by clear hret hP hK hts hown hx hb hml hl; subst_vars; first | (simp [hx_iff, hx_val, c_1]; done) | (simp_all [hx_iff, hx_val]; done) | (try simp only [hx_iff, hx_val]; (repeat' split) <;> first | rfl | contradiction | (simp_all; done) | (exfalso; simp only [not_and, Int32.lt_iff_toInt_lt, Int32.le_iff_toInt_le] at *; omega)))
  refine lv_iconst (v := 1) hx hb dX4_has_9 (by decide) ?_
  refine lv_goto (tgt := 14) hx hb dX4_has_10 (by decide) ?_
  exact hret 14 _ 1 dX4_has_14 (by clear hret hP hK hts hown hx hb hml hl; subst_vars; first | (simp [hx_iff, hx_val, c_1]; done) | (simp_all [hx_iff, hx_val]; done) | (try simp only [hx_iff, hx_val]; (repeat' split) <;> first | rfl | contradiction | (simp_all; done) | (exfalso; simp only [not_and, Int32.lt_iff_toInt_lt, Int32.le_iff_toInt_le] at *; omega)))

set_option maxHeartbeats 4000000 in
set_option maxRecDepth 100000 in
theorem kX4_bits (l : Launch) (D : va_G) (cI : ClassId) (p0 : Int32) : Met l yX4_bits wsX4_bits ({ frames := 0, cells := 0, slots := 0, locals := 0 }) (PRO D cI [.int p0] []) (vp_Si (fun v => v = nI (cntN p0 10))) 0 0 (fun _ => False) := by
  refine st_roi (cc := cX4_bits) (maxL := 3) (rt := .int) (by decide) rfl (Nat.le_of_ble_eq_true rfl) (fun _ _ => rfl) ?_
  intro p e s m below meth c Q ls hx hb hml hts hown hP hK hl hret
  replace hown : s.vm.findClass RX4 = some m.cls := hown
  replace hl : lv_has ls 3 [(0, .int p0)] := hl
  refine lv_iconst (v := 0) hx hb dX4_bits_0 (by decide) ?_
  refine lv_istore_n (lv' := [(1, .int 0), (0, .int p0)]) hx hb dX4_bits_1 rfl hl (by decide) rfl (fun ls hl => ?_)
  refine lv_iconst (v := 0) hx hb dX4_bits_2 (by decide) ?_
  refine lv_istore_n (lv' := [(2, .int 0), (1, .int 0), (0, .int p0)]) hx hb dX4_bits_3 rfl hl (by decide) rfl (fun ls hl => ?_)
  have lp_4_1 : ∀ (fu : Nat) (i : Nat) (x2 : Int32) (x1 : Int32) (ls : Array Slot), 10 - i < fu → (x2 = nI i) → (i ≤ 10) → (x1 = nI (cntN p0 i)) → lv_has ls 3 [(2, .int x2), (1, .int x1), (0, .int p0)] → W p l e ({ frames := 0, cells := 0, slots := 0, locals := 0 }) s m [.int p0].toArray below meth c s.heap [] 0 0 Q (F0 m 4 ls []) := by
    intro fu
    induction fu with
    | zero =>
      intro i x2 x1 ls hfu
      exact absurd hfu (Nat.not_lt_zero _)
    | succ fu ih_1 =>
      intro i x2 x1 ls hfu hx2 hi hx1 hl
      refine lv_iload_n hx hb dX4_bits_4 rfl (lv_at hl 0 rfl) ?_
      refine lv_bipush (v := 10) hx hb dX4_bits_5 (by decide) ?_
      refine lv_icmp_ge (tgt := 24) hx hb dX4_bits_7 (by decide) (fun c_2 => ?_) (fun c_2 => ?_)
      · skip
        have n_2 : 10 ≤ i := (ni_le (a := 10) (b := i) (rfl : (10 : Int32) = nI 10) hx2 (by decide) (by omega)).mp c_2
        refine lv_iload_n hx hb dX4_bits_24 rfl (lv_at hl 1 rfl) ?_
        exact hret 25 _ x1 dX4_bits_25 (by have e9 : i = 10 := (by omega); subst e9; exact hx1)
      have n_2 : ¬ 10 ≤ i := fun q => c_2 ((ni_le (a := 10) (b := i) (rfl : (10 : Int32) = nI 10) hx2 (by decide) (by omega)).mpr q)
      refine lv_iload_n hx hb dX4_bits_10 rfl (lv_at hl 1 rfl) ?_
      refine lv_iload_n hx hb dX4_bits_11 rfl (lv_at hl 2 rfl) ?_
      refine lv_iload_n hx hb dX4_bits_12 rfl (lv_at hl 0 rfl) ?_
      refine lv_ishr hx hb dX4_bits_13 ?_
      refine lv_iconst (v := 1) hx hb dX4_bits_14 (by decide) ?_
      refine lv_iand hx hb dX4_bits_15 ?_
      refine lv_iadd hx hb dX4_bits_16 ?_
      refine lv_topi (fun x_3 ex_3 => ?_)
      refine lv_istore_n (lv' := [(1, .int x_3), (2, .int x2), (0, .int p0)]) hx hb dX4_bits_17 rfl hl (by decide) rfl (fun ls hl => ?_)
      obtain ⟨x_4, ex_4⟩ : ∃ z : Int32, z = x2 + 1 := ⟨_, rfl⟩
      refine lv_iinc (v := x_4) (lv' := [(2, .int x_4), (1, .int x_3), (0, .int p0)]) hx hb dX4_bits_18 hl (k := 1) rfl (by rw [ex_4]; rfl) (by decide) rfl (fun ls hl => ?_)
      refine lv_goto (tgt := 4) hx hb dX4_bits_21 (by decide) ?_
      exact ih_1 (i + 1) x_4 x_3 _ (by omega) (ni_add (a := i) (b := 1) ex_4 hx2 (rfl : (1 : Int32) = nI 1)) (by omega) (by clear ih_1; clear hret hP hK hts hown hx hb hml hl; subst_vars; rw [hx_val _ (by omega)]; by_cases hb1 : bt p0 i = true <;> simp [hb1, cntN, nI_1]) (lv_sub hl [0, 1, 2] rfl)
  exact lp_4_1 ((10 - 0) + 1) 0 0 0 _ (by omega) (rfl : (0 : Int32) = nI 0) (by omega) rfl (lv_sub hl [0, 1, 2] rfl)

set_option maxHeartbeats 4000000 in
set_option maxRecDepth 100000 in
theorem kX4_fresh (l : Launch) (D : va_G) (cI : ClassId) (h : Nat) (r : RR) (n : Nat) (hI : Inv n r) (p0 : Int32) (t0 : Nat) (hp0 : p0 = nI t0) (ht0 : t0 < n) : Met l yX4_fresh wsX4_fresh ({ frames := 1, cells := 0, slots := 0, locals := 21 }) (PRO D cI [.ref h, .int p0] [(h, .inl (cI, 49, .inl r))]) (vp_Si (fun v => v = frs r t0)) 0 0 (fun _ => False) := by
  refine st_roi (cc := cX4_fresh) (maxL := 3) (rt := .int) (by decide) rfl (Nat.le_of_ble_eq_true rfl) (fun _ _ => rfl) ?_
  intro p e s m below meth c Q ls hx hb hml hts hown hP hK hl hret
  replace hown : s.vm.findClass RX4 = some m.cls := hown
  replace hl : lv_has ls 3 [(0, .ref h), (1, .int p0)] := hl
  have hn9 := hI.le
  refine lv_aload_n hx hb dX4_fresh_0 rfl (lv_at hl 0 rfl) ?_
  refine lv_iload_n hx hb dX4_fresh_1 rfl (lv_at hl 1 rfl) ?_
  refine lv_iconst (v := 1) hx hb dX4_fresh_2 (by decide) ?_
  refine xc_Si (As := [.int p0, .int 1]) (rest := [.ref h]) ⟨hx, hb, hml, hown, hts⟩ (kX4_of l D cI p0 1 t0 1 hp0 (rfl : (1 : Int32) = nI 1)) (va_cwS 2 hts gX4_fresh_X4_of rfl rfl rfl hs_X4_of ⟨Nat.le_of_ble_eq_true rfl, Nat.le_of_ble_eq_true rfl⟩) hK hP [] rfl rfl hl.1 rfl (Nat.le_of_ble_eq_true rfl) dX4_fresh_3 ⟨Nat.zero_le _, Nat.zero_le _⟩ (fun r_1 hr_1 => ?_)
  refine xa_ld hx hb hK hP 0 rfl (j := (oF t0 1)) hr_1 (oF_lt (by omega) (by omega)) (by decide) dX4_fresh_6 ?_
  refine lv_aload_n hx hb dX4_fresh_7 rfl (lv_at hl 0 rfl) ?_
  refine lv_iload_n hx hb dX4_fresh_8 rfl (lv_at hl 1 rfl) ?_
  refine lv_iconst (v := 3) hx hb dX4_fresh_9 (by decide) ?_
  refine xc_Si (As := [.int p0, .int 3]) (rest := [.ref h, .int (r (oF t0 1))]) ⟨hx, hb, hml, hown, hts⟩ (kX4_of l D cI p0 3 t0 3 hp0 (rfl : (3 : Int32) = nI 3)) (va_cwS 2 hts gX4_fresh_X4_of rfl rfl rfl hs_X4_of ⟨Nat.le_of_ble_eq_true rfl, Nat.le_of_ble_eq_true rfl⟩) hK hP [] rfl rfl hl.1 rfl (Nat.le_of_ble_eq_true rfl) dX4_fresh_10 ⟨Nat.zero_le _, Nat.zero_le _⟩ (fun r_2 hr_2 => ?_)
  refine xa_ld hx hb hK hP 0 rfl (j := (oF t0 3)) hr_2 (oF_lt (by omega) (by omega)) (by decide) dX4_fresh_13 ?_
  refine lv_isub hx hb dX4_fresh_14 ?_
  refine lv_topi (fun x_3 ex_3 => ?_)
  refine lv_istore_n (lv' := [(2, .int x_3), (0, .ref h), (1, .int p0)]) hx hb dX4_fresh_15 rfl hl (by decide) rfl (fun ls hl => ?_)
  refine lv_iload_n hx hb dX4_fresh_16 rfl (lv_at hl 0 rfl) ?_
  refine lv_if_ge (tgt := 24) hx hb dX4_fresh_17 (by decide) (fun c_4 => ?_) (fun c_4 => ?_)
  · skip
    refine lv_iload_n hx hb dX4_fresh_24 rfl (lv_at hl 0 rfl) ?_
    exact hret 25 _ x_3 dX4_fresh_25 (by clear hret hP hK hts hown hx hb hml hl; subst_vars; first | (simp [frs, c_4]; done) | (simp_all [frs]; done) | (try simp only [frs]; (repeat' split) <;> first | rfl | contradiction | (simp_all; done) | (exfalso; simp only [not_and, Int32.lt_iff_toInt_lt, Int32.le_iff_toInt_le] at *; omega)))
  refine lv_iconst (v := 0) hx hb dX4_fresh_20 (by decide) ?_
  refine lv_goto (tgt := 25) hx hb dX4_fresh_21 (by decide) ?_
  exact hret 25 _ 0 dX4_fresh_25 (by clear hret hP hK hts hown hx hb hml hl; subst_vars; first | (simp [frs, c_4]; done) | (simp_all [frs]; done) | (try simp only [frs]; (repeat' split) <;> first | rfl | contradiction | (simp_all; done) | (exfalso; simp only [not_and, Int32.lt_iff_toInt_lt, Int32.le_iff_toInt_le] at *; omega)))

set_option maxHeartbeats 4000000 in
set_option maxRecDepth 100000 in
theorem kX4_softOf (l : Launch) (D : va_G) (cI : ClassId) (h : Nat) (r : RR) (n : Nat) (hI : Inv n r) (p0 : Int32) (t0 : Nat) (hp0 : p0 = nI t0) (ht0 : t0 < n) : Met l yX4_softOf wsX4_softOf ({ frames := 2, cells := 0, slots := 0, locals := 43 }) (PRO D cI [.ref h, .int p0] [(h, .inl (cI, 49, .inl r))]) (vp_Si (fun v => v = softK (r (oF t0 0)) (frs r t0))) 0 0 (fun _ => False) := by
  refine st_roi (cc := cX4_softOf) (maxL := 3) (rt := .int) (by decide) rfl (Nat.le_of_ble_eq_true rfl) (fun _ _ => rfl) ?_
  intro p e s m below meth c Q ls hx hb hml hts hown hP hK hl hret
  replace hown : s.vm.findClass RX4 = some m.cls := hown
  replace hl : lv_has ls 3 [(0, .ref h), (1, .int p0)] := hl
  have hn9 := hI.le
  refine lv_aload_n hx hb dX4_softOf_0 rfl (lv_at hl 0 rfl) ?_
  refine lv_iload_n hx hb dX4_softOf_1 rfl (lv_at hl 1 rfl) ?_
  refine xc_Si (As := [.ref h, .int p0]) (rest := []) ⟨hx, hb, hml, hown, hts⟩ (kX4_fresh l D cI h r n hI p0 t0 hp0 (by omega)) (va_cwS 2 hts gX4_softOf_X4_fresh rfl rfl rfl hs_X4_fresh ⟨Nat.le_of_ble_eq_true rfl, Nat.le_of_ble_eq_true rfl⟩) hK hP [0] rfl rfl hl.1 rfl (Nat.le_of_ble_eq_true rfl) dX4_softOf_2 ⟨Nat.zero_le _, Nat.zero_le _⟩ (fun r_1 hr_1 => ?_)
  refine lv_istore_n (lv' := [(2, .int r_1), (0, .ref h), (1, .int p0)]) hx hb dX4_softOf_5 rfl hl (by decide) rfl (fun ls hl => ?_)
  refine lv_aload_n hx hb dX4_softOf_6 rfl (lv_at hl 1 rfl) ?_
  refine lv_iload_n hx hb dX4_softOf_7 rfl (lv_at hl 2 rfl) ?_
  refine lv_iconst (v := 0) hx hb dX4_softOf_8 (by decide) ?_
  refine xc_Si (As := [.int p0, .int 0]) (rest := [.ref h]) ⟨hx, hb, hml, hown, hts⟩ (kX4_of l D cI p0 0 t0 0 hp0 (rfl : (0 : Int32) = nI 0)) (va_cwS 2 hts gX4_softOf_X4_of rfl rfl rfl hs_X4_of ⟨Nat.le_of_ble_eq_true rfl, Nat.le_of_ble_eq_true rfl⟩) hK hP [] rfl rfl hl.1 rfl (Nat.le_of_ble_eq_true rfl) dX4_softOf_9 ⟨Nat.zero_le _, Nat.zero_le _⟩ (fun r_2 hr_2 => ?_)
  refine xa_ld hx hb hK hP 0 rfl (j := (oF t0 0)) hr_2 (oF_lt (by omega) (by omega)) (by decide) dX4_softOf_12 ?_
  by_cases c_3 : (r (oF t0 0)) = 1
  · refine xs_tin (k := 1) (off := 35) (tgt := 48) hx hb dX4_softOf_13 c_3 (by decide) (by decide) (by decide) (by decide) (by decide) ?_
    refine lv_iload_n hx hb dX4_softOf_48 rfl (lv_at hl 0 rfl) ?_
    refine lv_iconst (v := 3) hx hb dX4_softOf_49 (by decide) ?_
    refine lv_iadd hx hb dX4_softOf_50 ?_
    exact hret 51 _ (r_1 + 3) dX4_softOf_51 (by clear hret hP hK hts hown hx hb hml hl; subst_vars; first | (simp [softK, c_3]; done) | (simp_all [softK]; done) | (try simp only [softK]; (repeat' split) <;> first | rfl | contradiction | (simp_all; done) | (exfalso; simp only [not_and, Int32.lt_iff_toInt_lt, Int32.le_iff_toInt_le] at *; omega)))
  by_cases c_4 : (r (oF t0 0)) = 2
  · refine xs_tin (k := 2) (off := 39) (tgt := 52) hx hb dX4_softOf_13 c_4 (by decide) (by decide) (by decide) (by decide) (by decide) ?_
    refine lv_iconst (v := 0) hx hb dX4_softOf_52 (by decide) ?_
    exact hret 53 _ 0 dX4_softOf_53 (by clear hret hP hK hts hown hx hb hml hl; subst_vars; first | (simp [softK, c_3, c_4]; done) | (simp_all [softK]; done) | (try simp only [softK]; (repeat' split) <;> first | rfl | contradiction | (simp_all; done) | (exfalso; simp only [not_and, Int32.lt_iff_toInt_lt, Int32.le_iff_toInt_le] at *; omega)))
  by_cases c_5 : (r (oF t0 0)) = 3
  · refine xs_tin (k := 3) (off := 41) (tgt := 54) hx hb dX4_softOf_13 c_5 (by decide) (by decide) (by decide) (by decide) (by decide) ?_
    refine lv_iload_n hx hb dX4_softOf_54 rfl (lv_at hl 0 rfl) ?_
    refine lv_iconst (v := 2) hx hb dX4_softOf_55 (by decide) ?_
    refine lv_idiv hx hb dX4_softOf_56 (by decide) ?_
    exact hret 57 _ (r_1 / 2) dX4_softOf_57 (by clear hret hP hK hts hown hx hb hml hl; subst_vars; first | (simp [softK, c_3, c_4, c_5]; done) | (simp_all [softK]; done) | (try simp only [softK]; (repeat' split) <;> first | rfl | contradiction | (simp_all; done) | (exfalso; simp only [not_and, Int32.lt_iff_toInt_lt, Int32.le_iff_toInt_le] at *; omega)))
  by_cases c_6 : (r (oF t0 0)) = 4
  · refine xs_tin (k := 4) (off := 45) (tgt := 58) hx hb dX4_softOf_13 c_6 (by decide) (by decide) (by decide) (by decide) (by decide) ?_
    refine lv_iconst (v := 1) hx hb dX4_softOf_58 (by decide) ?_
    exact hret 59 _ 1 dX4_softOf_59 (by clear hret hP hK hts hown hx hb hml hl; subst_vars; first | (simp [softK, c_3, c_4, c_5, c_6]; done) | (simp_all [softK]; done) | (try simp only [softK]; (repeat' split) <;> first | rfl | contradiction | (simp_all; done) | (exfalso; simp only [not_and, Int32.lt_iff_toInt_lt, Int32.le_iff_toInt_le] at *; omega)))
  by_cases c_7 : (r (oF t0 0)) = 5
  · refine xs_tin (k := 5) (off := 47) (tgt := 60) hx hb dX4_softOf_13 c_7 (by decide) (by decide) (by decide) (by decide) (by decide) ?_
    refine lv_iload_n hx hb dX4_softOf_60 rfl (lv_at hl 0 rfl) ?_
    refine lv_iconst (v := 4) hx hb dX4_softOf_61 (by decide) ?_
    refine lv_icmp_le (tgt := 73) hx hb dX4_softOf_62 (by decide) (fun c_8 => ?_) (fun c_8 => ?_)
    · skip
      refine lv_iconst (v := 0) hx hb dX4_softOf_73 (by decide) ?_
      exact hret 74 _ 0 dX4_softOf_74 (by clear hret hP hK hts hown hx hb hml hl; subst_vars; first | (simp [softK, c_3, c_4, c_5, c_6, c_7, c_8]; done) | (simp_all [softK]; done) | (try simp only [softK]; (repeat' split) <;> first | rfl | contradiction | (simp_all; done) | (exfalso; simp only [not_and, Int32.lt_iff_toInt_lt, Int32.le_iff_toInt_le] at *; omega)))
    refine lv_iconst (v := 2) hx hb dX4_softOf_65 (by decide) ?_
    refine lv_iload_n hx hb dX4_softOf_66 rfl (lv_at hl 0 rfl) ?_
    refine lv_iconst (v := 3) hx hb dX4_softOf_67 (by decide) ?_
    refine lv_iadd hx hb dX4_softOf_68 ?_
    refine lv_imul hx hb dX4_softOf_69 ?_
    refine lv_goto (tgt := 74) hx hb dX4_softOf_70 (by decide) ?_
    exact hret 74 _ (2 * (r_1 + 3)) dX4_softOf_74 (by clear hret hP hK hts hown hx hb hml hl; subst_vars; first | (simp [softK, c_3, c_4, c_5, c_6, c_7, c_8]; done) | (simp_all [softK]; done) | (try simp only [softK]; (repeat' split) <;> first | rfl | contradiction | (simp_all; done) | (exfalso; simp only [not_and, Int32.lt_iff_toInt_lt, Int32.le_iff_toInt_le] at *; omega)))
  refine xs_tout (tgt := 75) (ks := [1, 2, 3, 4, 5]) hx hb dX4_softOf_13 (List.forall_mem_cons.mpr ⟨c_3, List.forall_mem_cons.mpr ⟨c_4, List.forall_mem_cons.mpr ⟨c_5, List.forall_mem_cons.mpr ⟨c_6, List.forall_mem_cons.mpr ⟨c_7, fun _ h => absurd h List.not_mem_nil⟩⟩⟩⟩⟩) (by decide) (by decide) ?_
  refine lv_iload_n hx hb dX4_softOf_75 rfl (lv_at hl 0 rfl) ?_
  exact hret 76 _ r_1 dX4_softOf_76 (by clear hret hP hK hts hown hx hb hml hl; subst_vars; first | (simp [softK, c_3, c_4, c_5, c_6, c_7]; done) | (simp_all [softK]; done) | (try simp only [softK]; (repeat' split) <;> first | rfl | contradiction | (simp_all; done) | (exfalso; simp only [not_and, Int32.lt_iff_toInt_lt, Int32.le_iff_toInt_le] at *; omega)))

set_option maxHeartbeats 4000000 in
set_option maxRecDepth 100000 in
theorem kX4_bindsOf (l : Launch) (D : va_G) (cI : ClassId) (h : Nat) (r : RR) (n : Nat) (hI : Inv n r) (p0 : Int32) (t0 : Nat) (hp0 : p0 = nI t0) (ht0 : t0 < n) : Met l yX4_bindsOf wsX4_bindsOf ({ frames := 2, cells := 0, slots := 0, locals := 43 }) (PRO D cI [.ref h, .int p0] [(h, .inl (cI, 49, .inl r))]) (vp_Si (fun v => v = bindsK (r (oF t0 0)) (frs r t0))) 0 0 (fun _ => False) := by
  refine st_roi (cc := cX4_bindsOf) (maxL := 3) (rt := .int) (by decide) rfl (Nat.le_of_ble_eq_true rfl) (fun _ _ => rfl) ?_
  intro p e s m below meth c Q ls hx hb hml hts hown hP hK hl hret
  replace hown : s.vm.findClass RX4 = some m.cls := hown
  replace hl : lv_has ls 3 [(0, .ref h), (1, .int p0)] := hl
  have hn9 := hI.le
  refine lv_aload_n hx hb dX4_bindsOf_0 rfl (lv_at hl 0 rfl) ?_
  refine lv_iload_n hx hb dX4_bindsOf_1 rfl (lv_at hl 1 rfl) ?_
  refine xc_Si (As := [.ref h, .int p0]) (rest := []) ⟨hx, hb, hml, hown, hts⟩ (kX4_fresh l D cI h r n hI p0 t0 hp0 (by omega)) (va_cwS 2 hts gX4_bindsOf_X4_fresh rfl rfl rfl hs_X4_fresh ⟨Nat.le_of_ble_eq_true rfl, Nat.le_of_ble_eq_true rfl⟩) hK hP [0] rfl rfl hl.1 rfl (Nat.le_of_ble_eq_true rfl) dX4_bindsOf_2 ⟨Nat.zero_le _, Nat.zero_le _⟩ (fun r_1 hr_1 => ?_)
  refine lv_istore_n (lv' := [(2, .int r_1), (0, .ref h), (1, .int p0)]) hx hb dX4_bindsOf_5 rfl hl (by decide) rfl (fun ls hl => ?_)
  refine lv_aload_n hx hb dX4_bindsOf_6 rfl (lv_at hl 1 rfl) ?_
  refine lv_iload_n hx hb dX4_bindsOf_7 rfl (lv_at hl 2 rfl) ?_
  refine lv_iconst (v := 0) hx hb dX4_bindsOf_8 (by decide) ?_
  refine xc_Si (As := [.int p0, .int 0]) (rest := [.ref h]) ⟨hx, hb, hml, hown, hts⟩ (kX4_of l D cI p0 0 t0 0 hp0 (rfl : (0 : Int32) = nI 0)) (va_cwS 2 hts gX4_bindsOf_X4_of rfl rfl rfl hs_X4_of ⟨Nat.le_of_ble_eq_true rfl, Nat.le_of_ble_eq_true rfl⟩) hK hP [] rfl rfl hl.1 rfl (Nat.le_of_ble_eq_true rfl) dX4_bindsOf_9 ⟨Nat.zero_le _, Nat.zero_le _⟩ (fun r_2 hr_2 => ?_)
  refine xa_ld hx hb hK hP 0 rfl (j := (oF t0 0)) hr_2 (oF_lt (by omega) (by omega)) (by decide) dX4_bindsOf_12 ?_
  by_cases c_3 : (r (oF t0 0)) = 1
  · refine xs_tin (k := 1) (off := 35) (tgt := 48) hx hb dX4_bindsOf_13 c_3 (by decide) (by decide) (by decide) (by decide) (by decide) ?_
    refine lv_iconst (v := 0) hx hb dX4_bindsOf_48 (by decide) ?_
    exact hret 49 _ 0 dX4_bindsOf_49 (by clear hret hP hK hts hown hx hb hml hl; subst_vars; first | (simp [bindsK, c_3]; done) | (simp_all [bindsK]; done) | (try simp only [bindsK]; (repeat' split) <;> first | rfl | contradiction | (simp_all; done) | (exfalso; simp only [not_and, Int32.lt_iff_toInt_lt, Int32.le_iff_toInt_le] at *; omega)))
  by_cases c_4 : (r (oF t0 0)) = 2
  · refine xs_tin (k := 2) (off := 37) (tgt := 50) hx hb dX4_bindsOf_13 c_4 (by decide) (by decide) (by decide) (by decide) (by decide) ?_
    refine lv_iload_n hx hb dX4_bindsOf_50 rfl (lv_at hl 0 rfl) ?_
    refine lv_iconst (v := 2) hx hb dX4_bindsOf_51 (by decide) ?_
    refine lv_idiv hx hb dX4_bindsOf_52 (by decide) ?_
    refine lv_iconst (v := 2) hx hb dX4_bindsOf_53 (by decide) ?_
    refine lv_iadd hx hb dX4_bindsOf_54 ?_
    exact hret 55 _ ((r_1 / 2) + 2) dX4_bindsOf_55 (by clear hret hP hK hts hown hx hb hml hl; subst_vars; first | (simp [bindsK, c_3, c_4]; done) | (simp_all [bindsK]; done) | (try simp only [bindsK]; (repeat' split) <;> first | rfl | contradiction | (simp_all; done) | (exfalso; simp only [not_and, Int32.lt_iff_toInt_lt, Int32.le_iff_toInt_le] at *; omega)))
  by_cases c_5 : (r (oF t0 0)) = 3
  · refine xs_tin (k := 3) (off := 49) (tgt := 62) hx hb dX4_bindsOf_13 c_5 (by decide) (by decide) (by decide) (by decide) (by decide) ?_
    refine lv_iconst (v := 1) hx hb dX4_bindsOf_62 (by decide) ?_
    exact hret 63 _ 1 dX4_bindsOf_63 (by clear hret hP hK hts hown hx hb hml hl; subst_vars; first | (simp [bindsK, c_3, c_4, c_5]; done) | (simp_all [bindsK]; done) | (try simp only [bindsK]; (repeat' split) <;> first | rfl | contradiction | (simp_all; done) | (exfalso; simp only [not_and, Int32.lt_iff_toInt_lt, Int32.le_iff_toInt_le] at *; omega)))
  by_cases c_6 : (r (oF t0 0)) = 4
  · refine xs_tin (k := 4) (off := 43) (tgt := 56) hx hb dX4_bindsOf_13 c_6 (by decide) (by decide) (by decide) (by decide) (by decide) ?_
    refine lv_iload_n hx hb dX4_bindsOf_56 rfl (lv_at hl 0 rfl) ?_
    refine lv_iconst (v := 2) hx hb dX4_bindsOf_57 (by decide) ?_
    refine lv_idiv hx hb dX4_bindsOf_58 (by decide) ?_
    refine lv_iconst (v := 5) hx hb dX4_bindsOf_59 (by decide) ?_
    refine lv_iadd hx hb dX4_bindsOf_60 ?_
    exact hret 61 _ ((r_1 / 2) + 5) dX4_bindsOf_61 (by clear hret hP hK hts hown hx hb hml hl; subst_vars; first | (simp [bindsK, c_3, c_4, c_5, c_6]; done) | (simp_all [bindsK]; done) | (try simp only [bindsK]; (repeat' split) <;> first | rfl | contradiction | (simp_all; done) | (exfalso; simp only [not_and, Int32.lt_iff_toInt_lt, Int32.le_iff_toInt_le] at *; omega)))
  by_cases c_7 : (r (oF t0 0)) = 5
  · refine xs_tin (k := 5) (off := 35) (tgt := 48) hx hb dX4_bindsOf_13 c_7 (by decide) (by decide) (by decide) (by decide) (by decide) ?_
    refine lv_iconst (v := 0) hx hb dX4_bindsOf_48 (by decide) ?_
    exact hret 49 _ 0 dX4_bindsOf_49 (by clear hret hP hK hts hown hx hb hml hl; subst_vars; first | (simp [bindsK, c_3, c_4, c_5, c_6, c_7]; done) | (simp_all [bindsK]; done) | (try simp only [bindsK]; (repeat' split) <;> first | rfl | contradiction | (simp_all; done) | (exfalso; simp only [not_and, Int32.lt_iff_toInt_lt, Int32.le_iff_toInt_le] at *; omega)))
  refine xs_tout (tgt := 62) (ks := [1, 2, 3, 4, 5]) hx hb dX4_bindsOf_13 (List.forall_mem_cons.mpr ⟨c_3, List.forall_mem_cons.mpr ⟨c_4, List.forall_mem_cons.mpr ⟨c_5, List.forall_mem_cons.mpr ⟨c_6, List.forall_mem_cons.mpr ⟨c_7, fun _ h => absurd h List.not_mem_nil⟩⟩⟩⟩⟩) (by decide) (by decide) ?_
  refine lv_iconst (v := 1) hx hb dX4_bindsOf_62 (by decide) ?_
  exact hret 63 _ 1 dX4_bindsOf_63 (by clear hret hP hK hts hown hx hb hml hl; subst_vars; first | (simp [bindsK, c_3, c_4, c_5, c_6, c_7]; done) | (simp_all [bindsK]; done) | (try simp only [bindsK]; (repeat' split) <;> first | rfl | contradiction | (simp_all; done) | (exfalso; simp only [not_and, Int32.lt_iff_toInt_lt, Int32.le_iff_toInt_le] at *; omega)))

set_option maxHeartbeats 4000000 in
set_option maxRecDepth 100000 in
theorem kX4_weighsOf (l : Launch) (D : va_G) (cI : ClassId) (h : Nat) (r : RR) (n : Nat) (hI : Inv n r) (p0 : Int32) (t0 : Nat) (hp0 : p0 = nI t0) (ht0 : t0 < n) : Met l yX4_weighsOf wsX4_weighsOf ({ frames := 2, cells := 0, slots := 0, locals := 43 }) (PRO D cI [.ref h, .int p0] [(h, .inl (cI, 49, .inl r))]) (vp_Si (fun v => v = weighsK (r (oF t0 0)) (frs r t0))) 0 0 (fun _ => False) := by
  refine st_roi (cc := cX4_weighsOf) (maxL := 2) (rt := .int) (by decide) rfl (Nat.le_of_ble_eq_true rfl) (fun _ _ => rfl) ?_
  intro p e s m below meth c Q ls hx hb hml hts hown hP hK hl hret
  replace hown : s.vm.findClass RX4 = some m.cls := hown
  replace hl : lv_has ls 2 [(0, .ref h), (1, .int p0)] := hl
  have hn9 := hI.le
  refine lv_aload_n hx hb dX4_weighsOf_0 rfl (lv_at hl 0 rfl) ?_
  refine lv_iload_n hx hb dX4_weighsOf_1 rfl (lv_at hl 1 rfl) ?_
  refine lv_iconst (v := 0) hx hb dX4_weighsOf_2 (by decide) ?_
  refine xc_Si (As := [.int p0, .int 0]) (rest := [.ref h]) ⟨hx, hb, hml, hown, hts⟩ (kX4_of l D cI p0 0 t0 0 hp0 (rfl : (0 : Int32) = nI 0)) (va_cwS 2 hts gX4_weighsOf_X4_of rfl rfl rfl hs_X4_of ⟨Nat.le_of_ble_eq_true rfl, Nat.le_of_ble_eq_true rfl⟩) hK hP [] rfl rfl hl.1 rfl (Nat.le_of_ble_eq_true rfl) dX4_weighsOf_3 ⟨Nat.zero_le _, Nat.zero_le _⟩ (fun r_1 hr_1 => ?_)
  refine xa_ld hx hb hK hP 0 rfl (j := (oF t0 0)) hr_1 (oF_lt (by omega) (by omega)) (by decide) dX4_weighsOf_6 ?_
  by_cases c_2 : (r (oF t0 0)) = 2
  · refine xs_tin (k := 2) (off := 25) (tgt := 32) hx hb dX4_weighsOf_7 c_2 (by decide) (by decide) (by decide) (by decide) (by decide) ?_
    refine lv_iconst (v := 2) hx hb dX4_weighsOf_32 (by decide) ?_
    exact hret 33 _ 2 dX4_weighsOf_33 (by clear hret hP hK hts hown hx hb hml hl; subst_vars; first | (simp [weighsK, c_2]; done) | (simp_all [weighsK]; done) | (try simp only [weighsK]; (repeat' split) <;> first | rfl | contradiction | (simp_all; done) | (exfalso; simp only [not_and, Int32.lt_iff_toInt_lt, Int32.le_iff_toInt_le] at *; omega)))
  by_cases c_3 : (r (oF t0 0)) = 3
  · refine xs_tin (k := 3) (off := 27) (tgt := 34) hx hb dX4_weighsOf_7 c_3 (by decide) (by decide) (by decide) (by decide) (by decide) ?_
    refine lv_aload_n hx hb dX4_weighsOf_34 rfl (lv_at hl 0 rfl) ?_
    refine lv_iload_n hx hb dX4_weighsOf_35 rfl (lv_at hl 1 rfl) ?_
    refine xc_Si (As := [.ref h, .int p0]) (rest := []) ⟨hx, hb, hml, hown, hts⟩ (kX4_fresh l D cI h r n hI p0 t0 hp0 (by omega)) (va_cwS 2 hts gX4_weighsOf_X4_fresh rfl rfl rfl hs_X4_fresh ⟨Nat.le_of_ble_eq_true rfl, Nat.le_of_ble_eq_true rfl⟩) hK hP [0] rfl rfl hl.1 rfl (Nat.le_of_ble_eq_true rfl) dX4_weighsOf_36 ⟨Nat.zero_le _, Nat.zero_le _⟩ (fun r_4 hr_4 => ?_)
    refine lv_iconst (v := 3) hx hb dX4_weighsOf_39 (by decide) ?_
    refine lv_icmp_ge (tgt := 47) hx hb dX4_weighsOf_40 (by decide) (fun c_5 => ?_) (fun c_5 => ?_)
    · skip
      refine lv_iconst (v := 1) hx hb dX4_weighsOf_47 (by decide) ?_
      exact hret 48 _ 1 dX4_weighsOf_48 (by clear hret hP hK hts hown hx hb hml hl; subst_vars; first | (simp [weighsK, c_2, c_3, c_5]; done) | (simp_all [weighsK]; done) | (try simp only [weighsK]; (repeat' split) <;> first | rfl | contradiction | (simp_all; done) | (exfalso; simp only [not_and, Int32.lt_iff_toInt_lt, Int32.le_iff_toInt_le] at *; omega)))
    refine lv_iconst (v := 0) hx hb dX4_weighsOf_43 (by decide) ?_
    refine lv_goto (tgt := 48) hx hb dX4_weighsOf_44 (by decide) ?_
    exact hret 48 _ 0 dX4_weighsOf_48 (by clear hret hP hK hts hown hx hb hml hl; subst_vars; first | (simp [weighsK, c_2, c_3, c_5]; done) | (simp_all [weighsK]; done) | (try simp only [weighsK]; (repeat' split) <;> first | rfl | contradiction | (simp_all; done) | (exfalso; simp only [not_and, Int32.lt_iff_toInt_lt, Int32.le_iff_toInt_le] at *; omega)))
  by_cases c_6 : (r (oF t0 0)) = 4
  · refine xs_tin (k := 4) (off := 42) (tgt := 49) hx hb dX4_weighsOf_7 c_6 (by decide) (by decide) (by decide) (by decide) (by decide) ?_
    refine lv_iconst (v := 3) hx hb dX4_weighsOf_49 (by decide) ?_
    exact hret 50 _ 3 dX4_weighsOf_50 (by clear hret hP hK hts hown hx hb hml hl; subst_vars; first | (simp [weighsK, c_2, c_3, c_6]; done) | (simp_all [weighsK]; done) | (try simp only [weighsK]; (repeat' split) <;> first | rfl | contradiction | (simp_all; done) | (exfalso; simp only [not_and, Int32.lt_iff_toInt_lt, Int32.le_iff_toInt_le] at *; omega)))
  refine xs_tout (tgt := 51) (ks := [2, 3, 4]) hx hb dX4_weighsOf_7 (List.forall_mem_cons.mpr ⟨c_2, List.forall_mem_cons.mpr ⟨c_3, List.forall_mem_cons.mpr ⟨c_6, fun _ h => absurd h List.not_mem_nil⟩⟩⟩) (by decide) (by decide) ?_
  refine lv_iconst (v := 1) hx hb dX4_weighsOf_51 (by decide) ?_
  exact hret 52 _ 1 dX4_weighsOf_52 (by clear hret hP hK hts hown hx hb hml hl; subst_vars; first | (simp [weighsK, c_2, c_3, c_6]; done) | (simp_all [weighsK]; done) | (try simp only [weighsK]; (repeat' split) <;> first | rfl | contradiction | (simp_all; done) | (exfalso; simp only [not_and, Int32.lt_iff_toInt_lt, Int32.le_iff_toInt_le] at *; omega)))

set_option maxHeartbeats 4000000 in
set_option maxRecDepth 100000 in
theorem kX4_sumOf (l : Launch) (D : va_G) (cI : ClassId) (h : Nat) (r : RR) (n : Nat) (hI : Inv n r) (p0 : Int32) (p1 : Int32) : Met l yX4_sumOf wsX4_sumOf ({ frames := 3, cells := 0, slots := 0, locals := 65 }) (PRO D cI [.ref h, .int p0, .int p1] [(h, .inl (cI, 49, .inl r))]) (vp_Si (fun v => v = sumN r p0 p1 n)) 0 0 (fun _ => False) := by
  refine st_roi (cc := cX4_sumOf) (maxL := 5) (rt := .int) (by decide) rfl (Nat.le_of_ble_eq_true rfl) (fun _ _ => rfl) ?_
  intro p e s m below meth c Q ls hx hb hml hts hown hP hK hl hret
  replace hown : s.vm.findClass RX4 = some m.cls := hown
  replace hl : lv_has ls 5 [(0, .ref h), (1, .int p0), (2, .int p1)] := hl
  have hn9 := hI.le
  refine lv_iconst (v := 0) hx hb dX4_sumOf_0 (by decide) ?_
  refine lv_istore_n (lv' := [(3, .int 0), (0, .ref h), (1, .int p0), (2, .int p1)]) hx hb dX4_sumOf_1 rfl hl (by decide) rfl (fun ls hl => ?_)
  refine lv_iconst (v := 0) hx hb dX4_sumOf_2 (by decide) ?_
  refine lv_istore (lv' := [(4, .int 0), (3, .int 0), (0, .ref h), (1, .int p0), (2, .int p1)]) hx hb dX4_sumOf_3 hl (by decide) rfl (fun ls hl => ?_)
  have lp_5_1 : ∀ (fu : Nat) (i : Nat) (x4 : Int32) (x3 : Int32) (ls : Array Slot), n - i < fu → (x4 = nI i) → (i ≤ n) → (x3 = sumN r p0 p1 i) → lv_has ls 5 [(4, .int x4), (3, .int x3), (0, .ref h), (1, .int p0), (2, .int p1)] → W p l e ({ frames := 3, cells := 0, slots := 0, locals := 65 }) s m [.ref h, .int p0, .int p1].toArray below meth c s.heap [] 0 0 Q (F0 m 5 ls []) := by
    intro fu
    induction fu with
    | zero =>
      intro i x4 x3 ls hfu
      exact absurd hfu (Nat.not_lt_zero _)
    | succ fu ih_1 =>
      intro i x4 x3 ls hfu hx4 hi hx3 hl
      refine lv_iload hx hb dX4_sumOf_5 (lv_at hl 0 rfl) ?_
      refine lv_aload_n hx hb dX4_sumOf_7 rfl (lv_at hl 2 rfl) ?_
      refine lv_iconst (v := 0) hx hb dX4_sumOf_8 (by decide) ?_
      refine xa_ld hx hb hK hP 0 rfl (j := 0) (rfl : (0 : Int32) = nI 0) (by omega) (by decide) dX4_sumOf_9 ?_
      refine lv_icmp_ge (tgt := 69) hx hb dX4_sumOf_10 (by decide) (fun c_2 => ?_) (fun c_2 => ?_)
      · skip
        have n_2 : n ≤ i := (ni_le (a := n) (b := i) hI.n0 hx4 (by omega) (by omega)).mp c_2
        refine lv_iload_n hx hb dX4_sumOf_69 rfl (lv_at hl 1 rfl) ?_
        exact hret 70 _ x3 dX4_sumOf_70 (by have e9 : i = n := (by omega); subst e9; exact hx3)
      have n_2 : ¬ n ≤ i := fun q => c_2 ((ni_le (a := n) (b := i) hI.n0 hx4 (by omega) (by omega)).mpr q)
      refine lv_iload_n hx hb dX4_sumOf_13 rfl (lv_at hl 1 rfl) ?_
      refine lv_iload_n hx hb dX4_sumOf_14 rfl (lv_at hl 3 rfl) ?_
      refine lv_iload hx hb dX4_sumOf_15 (lv_at hl 0 rfl) ?_
      refine xc_Si (As := [.int p0, .int x4]) (rest := [.int x3]) ⟨hx, hb, hml, hown, hts⟩ (kX4_has l D cI p0 x4 i hx4 (by omega)) (va_cwS 2 hts gX4_sumOf_X4_has rfl rfl rfl hs_X4_has ⟨Nat.le_of_ble_eq_true rfl, Nat.le_of_ble_eq_true rfl⟩) hK hP [] rfl rfl hl.1 rfl (Nat.le_of_ble_eq_true rfl) dX4_sumOf_17 ⟨Nat.zero_le _, Nat.zero_le _⟩ (fun r_3 hr_3 => ?_)
      refine lv_if_ne (tgt := 27) hx hb dX4_sumOf_20 (by decide) (fun c_4 => ?_) (fun c_4 => ?_)
      · skip
        have hb_4 : bt p0 i = true := bool_t hr_3 c_4
        refine lv_iload_n hx hb dX4_sumOf_27 rfl (lv_at hl 4 rfl) ?_
        refine lv_iconst (v := 1) hx hb dX4_sumOf_28 (by decide) ?_
        refine lv_icmp_ne (tgt := 41) hx hb dX4_sumOf_29 (by decide) (fun c_5 => ?_) (fun c_5 => ?_)
        · skip
          refine lv_iload_n hx hb dX4_sumOf_41 rfl (lv_at hl 4 rfl) ?_
          refine lv_iconst (v := 2) hx hb dX4_sumOf_42 (by decide) ?_
          refine lv_icmp_ne (tgt := 55) hx hb dX4_sumOf_43 (by decide) (fun c_6 => ?_) (fun c_6 => ?_)
          · skip
            refine lv_aload_n hx hb dX4_sumOf_55 rfl (lv_at hl 2 rfl) ?_
            refine lv_iload hx hb dX4_sumOf_56 (lv_at hl 0 rfl) ?_
            refine xc_Si (As := [.ref h, .int x4]) (rest := [.int x3]) ⟨hx, hb, hml, hown, hts⟩ (kX4_weighsOf l D cI h r n hI x4 i hx4 (by omega)) (va_cwS 2 hts gX4_sumOf_X4_weighsOf rfl rfl rfl hs_X4_weighsOf ⟨Nat.le_of_ble_eq_true rfl, Nat.le_of_ble_eq_true rfl⟩) hK hP [0] rfl rfl hl.1 rfl (Nat.le_of_ble_eq_true rfl) dX4_sumOf_58 ⟨Nat.zero_le _, Nat.zero_le _⟩ (fun r_7 hr_7 => ?_)
            refine lv_iadd hx hb dX4_sumOf_61 ?_
            refine lv_topi (fun x_8 ex_8 => ?_)
            refine lv_istore_n (lv' := [(3, .int x_8), (4, .int x4), (0, .ref h), (1, .int p0), (2, .int p1)]) hx hb dX4_sumOf_62 rfl hl (by decide) rfl (fun ls hl => ?_)
            obtain ⟨x_9, ex_9⟩ : ∃ z : Int32, z = x4 + 1 := ⟨_, rfl⟩
            refine lv_iinc (v := x_9) (lv' := [(4, .int x_9), (3, .int x_8), (0, .ref h), (1, .int p0), (2, .int p1)]) hx hb dX4_sumOf_63 hl (k := 1) rfl (by rw [ex_9]; rfl) (by decide) rfl (fun ls hl => ?_)
            refine lv_goto (tgt := 5) hx hb dX4_sumOf_66 (by decide) ?_
            exact ih_1 (i + 1) x_9 x_8 _ (by omega) (ni_add (a := i) (b := 1) ex_9 hx4 (rfl : (1 : Int32) = nI 1)) (by omega) (by clear ih_1; clear hret hP hK hts hown hx hb hml hl; subst_vars; first | (simp [sumN, one, c_2, c_4, c_5, c_6]; done) | (simp_all [sumN, one]; done) | (try simp only [sumN, one]; (repeat' split) <;> first | rfl | contradiction | (simp_all; done) | (exfalso; simp only [not_and, Int32.lt_iff_toInt_lt, Int32.le_iff_toInt_le] at *; omega))) (lv_sub hl [0, 1, 2, 3, 4] rfl)
          refine lv_aload_n hx hb dX4_sumOf_46 rfl (lv_at hl 2 rfl) ?_
          refine lv_iload hx hb dX4_sumOf_47 (lv_at hl 0 rfl) ?_
          refine xc_Si (As := [.ref h, .int x4]) (rest := [.int x3]) ⟨hx, hb, hml, hown, hts⟩ (kX4_bindsOf l D cI h r n hI x4 i hx4 (by omega)) (va_cwS 2 hts gX4_sumOf_X4_bindsOf rfl rfl rfl hs_X4_bindsOf ⟨Nat.le_of_ble_eq_true rfl, Nat.le_of_ble_eq_true rfl⟩) hK hP [0] rfl rfl hl.1 rfl (Nat.le_of_ble_eq_true rfl) dX4_sumOf_49 ⟨Nat.zero_le _, Nat.zero_le _⟩ (fun r_10 hr_10 => ?_)
          refine lv_goto (tgt := 61) hx hb dX4_sumOf_52 (by decide) ?_
          refine lv_iadd hx hb dX4_sumOf_61 ?_
          refine lv_topi (fun x_11 ex_11 => ?_)
          refine lv_istore_n (lv' := [(3, .int x_11), (4, .int x4), (0, .ref h), (1, .int p0), (2, .int p1)]) hx hb dX4_sumOf_62 rfl hl (by decide) rfl (fun ls hl => ?_)
          obtain ⟨x_12, ex_12⟩ : ∃ z : Int32, z = x4 + 1 := ⟨_, rfl⟩
          refine lv_iinc (v := x_12) (lv' := [(4, .int x_12), (3, .int x_11), (0, .ref h), (1, .int p0), (2, .int p1)]) hx hb dX4_sumOf_63 hl (k := 1) rfl (by rw [ex_12]; rfl) (by decide) rfl (fun ls hl => ?_)
          refine lv_goto (tgt := 5) hx hb dX4_sumOf_66 (by decide) ?_
          exact ih_1 (i + 1) x_12 x_11 _ (by omega) (ni_add (a := i) (b := 1) ex_12 hx4 (rfl : (1 : Int32) = nI 1)) (by omega) (by clear ih_1; clear hret hP hK hts hown hx hb hml hl; subst_vars; first | (simp [sumN, one, c_2, c_4, c_5, c_6]; done) | (simp_all [sumN, one]; done) | (try simp only [sumN, one]; (repeat' split) <;> first | rfl | contradiction | (simp_all; done) | (exfalso; simp only [not_and, Int32.lt_iff_toInt_lt, Int32.le_iff_toInt_le] at *; omega))) (lv_sub hl [0, 1, 2, 3, 4] rfl)
        refine lv_aload_n hx hb dX4_sumOf_32 rfl (lv_at hl 2 rfl) ?_
        refine lv_iload hx hb dX4_sumOf_33 (lv_at hl 0 rfl) ?_
        refine xc_Si (As := [.ref h, .int x4]) (rest := [.int x3]) ⟨hx, hb, hml, hown, hts⟩ (kX4_softOf l D cI h r n hI x4 i hx4 (by omega)) (va_cwS 2 hts gX4_sumOf_X4_softOf rfl rfl rfl hs_X4_softOf ⟨Nat.le_of_ble_eq_true rfl, Nat.le_of_ble_eq_true rfl⟩) hK hP [0] rfl rfl hl.1 rfl (Nat.le_of_ble_eq_true rfl) dX4_sumOf_35 ⟨Nat.zero_le _, Nat.zero_le _⟩ (fun r_13 hr_13 => ?_)
        refine lv_goto (tgt := 61) hx hb dX4_sumOf_38 (by decide) ?_
        refine lv_iadd hx hb dX4_sumOf_61 ?_
        refine lv_topi (fun x_14 ex_14 => ?_)
        refine lv_istore_n (lv' := [(3, .int x_14), (4, .int x4), (0, .ref h), (1, .int p0), (2, .int p1)]) hx hb dX4_sumOf_62 rfl hl (by decide) rfl (fun ls hl => ?_)
        obtain ⟨x_15, ex_15⟩ : ∃ z : Int32, z = x4 + 1 := ⟨_, rfl⟩
        refine lv_iinc (v := x_15) (lv' := [(4, .int x_15), (3, .int x_14), (0, .ref h), (1, .int p0), (2, .int p1)]) hx hb dX4_sumOf_63 hl (k := 1) rfl (by rw [ex_15]; rfl) (by decide) rfl (fun ls hl => ?_)
        refine lv_goto (tgt := 5) hx hb dX4_sumOf_66 (by decide) ?_
        exact ih_1 (i + 1) x_15 x_14 _ (by omega) (ni_add (a := i) (b := 1) ex_15 hx4 (rfl : (1 : Int32) = nI 1)) (by omega) (by clear ih_1; clear hret hP hK hts hown hx hb hml hl; subst_vars; first | (simp [sumN, one, c_2, c_4, c_5]; done) | (simp_all [sumN, one]; done) | (try simp only [sumN, one]; (repeat' split) <;> first | rfl | contradiction | (simp_all; done) | (exfalso; simp only [not_and, Int32.lt_iff_toInt_lt, Int32.le_iff_toInt_le] at *; omega))) (lv_sub hl [0, 1, 2, 3, 4] rfl)
      have hb_4 : bt p0 i = false := bool_f hr_3 c_4
      refine lv_iconst (v := 0) hx hb dX4_sumOf_23 (by decide) ?_
      refine lv_goto (tgt := 61) hx hb dX4_sumOf_24 (by decide) ?_
      refine lv_iadd hx hb dX4_sumOf_61 ?_
      refine lv_topi (fun x_16 ex_16 => ?_)
      refine lv_istore_n (lv' := [(3, .int x_16), (4, .int x4), (0, .ref h), (1, .int p0), (2, .int p1)]) hx hb dX4_sumOf_62 rfl hl (by decide) rfl (fun ls hl => ?_)
      obtain ⟨x_17, ex_17⟩ : ∃ z : Int32, z = x4 + 1 := ⟨_, rfl⟩
      refine lv_iinc (v := x_17) (lv' := [(4, .int x_17), (3, .int x_16), (0, .ref h), (1, .int p0), (2, .int p1)]) hx hb dX4_sumOf_63 hl (k := 1) rfl (by rw [ex_17]; rfl) (by decide) rfl (fun ls hl => ?_)
      refine lv_goto (tgt := 5) hx hb dX4_sumOf_66 (by decide) ?_
      exact ih_1 (i + 1) x_17 x_16 _ (by omega) (ni_add (a := i) (b := 1) ex_17 hx4 (rfl : (1 : Int32) = nI 1)) (by omega) (by clear ih_1; clear hret hP hK hts hown hx hb hml hl; subst_vars; first | (simp [sumN, one, c_2, c_4]; done) | (simp_all [sumN, one]; done) | (try simp only [sumN, one]; (repeat' split) <;> first | rfl | contradiction | (simp_all; done) | (exfalso; simp only [not_and, Int32.lt_iff_toInt_lt, Int32.le_iff_toInt_le] at *; omega))) (lv_sub hl [0, 1, 2, 3, 4] rfl)
  exact lp_5_1 ((n - 0) + 1) 0 0 0 _ (by omega) (rfl : (0 : Int32) = nI 0) (by omega) rfl (lv_sub hl [0, 1, 2, 3, 4] rfl)

set_option maxHeartbeats 4000000 in
set_option maxRecDepth 100000 in
theorem kX4_ofHer (l : Launch) (D : va_G) (cI : ClassId) (h : Nat) (r : RR) (n : Nat) (hI : Inv n r) (p0 : Int32) (p1 : Int32) : Met l yX4_ofHer wsX4_ofHer ({ frames := 1, cells := 0, slots := 0, locals := 21 }) (PRO D cI [.ref h, .int p0, .int p1] [(h, .inl (cI, 49, .inl r))]) (vp_Si (fun v => v = mk (herP r p0 p1) n)) 0 0 (fun _ => False) := by
  refine st_roi (cc := cX4_ofHer) (maxL := 5) (rt := .int) (by decide) rfl (Nat.le_of_ble_eq_true rfl) (fun _ _ => rfl) ?_
  intro p e s m below meth c Q ls hx hb hml hts hown hP hK hl hret
  replace hown : s.vm.findClass RX4 = some m.cls := hown
  replace hl : lv_has ls 5 [(0, .ref h), (1, .int p0), (2, .int p1)] := hl
  have hn9 := hI.le
  refine lv_iconst (v := 0) hx hb dX4_ofHer_0 (by decide) ?_
  refine lv_istore_n (lv' := [(3, .int 0), (0, .ref h), (1, .int p0), (2, .int p1)]) hx hb dX4_ofHer_1 rfl hl (by decide) rfl (fun ls hl => ?_)
  refine lv_iconst (v := 0) hx hb dX4_ofHer_2 (by decide) ?_
  refine lv_istore (lv' := [(4, .int 0), (3, .int 0), (0, .ref h), (1, .int p0), (2, .int p1)]) hx hb dX4_ofHer_3 hl (by decide) rfl (fun ls hl => ?_)
  have lp_5_1 : ∀ (fu : Nat) (i : Nat) (x4 : Int32) (x3 : Int32) (ls : Array Slot), n - i < fu → (x4 = nI i) → (i ≤ n) → (x3 = mk (herP r p0 p1) i) → lv_has ls 5 [(4, .int x4), (3, .int x3), (0, .ref h), (1, .int p0), (2, .int p1)] → W p l e ({ frames := 1, cells := 0, slots := 0, locals := 21 }) s m [.ref h, .int p0, .int p1].toArray below meth c s.heap [] 0 0 Q (F0 m 5 ls []) := by
    intro fu
    induction fu with
    | zero =>
      intro i x4 x3 ls hfu
      exact absurd hfu (Nat.not_lt_zero _)
    | succ fu ih_1 =>
      intro i x4 x3 ls hfu hx4 hi hx3 hl
      refine lv_iload hx hb dX4_ofHer_5 (lv_at hl 0 rfl) ?_
      refine lv_aload_n hx hb dX4_ofHer_7 rfl (lv_at hl 2 rfl) ?_
      refine lv_iconst (v := 0) hx hb dX4_ofHer_8 (by decide) ?_
      refine xa_ld hx hb hK hP 0 rfl (j := 0) (rfl : (0 : Int32) = nI 0) (by omega) (by decide) dX4_ofHer_9 ?_
      refine lv_icmp_ge (tgt := 54) hx hb dX4_ofHer_10 (by decide) (fun c_2 => ?_) (fun c_2 => ?_)
      · skip
        have n_2 : n ≤ i := (ni_le (a := n) (b := i) hI.n0 hx4 (by omega) (by omega)).mp c_2
        refine lv_iload_n hx hb dX4_ofHer_54 rfl (lv_at hl 1 rfl) ?_
        exact hret 55 _ x3 dX4_ofHer_55 (by have e9 : i = n := (by omega); subst e9; exact hx3)
      have n_2 : ¬ n ≤ i := fun q => c_2 ((ni_le (a := n) (b := i) hI.n0 hx4 (by omega) (by omega)).mpr q)
      refine lv_iload_n hx hb dX4_ofHer_13 rfl (lv_at hl 1 rfl) ?_
      refine lv_aload_n hx hb dX4_ofHer_14 rfl (lv_at hl 2 rfl) ?_
      refine lv_iload hx hb dX4_ofHer_15 (lv_at hl 0 rfl) ?_
      refine lv_iconst (v := 2) hx hb dX4_ofHer_17 (by decide) ?_
      refine xc_Si (As := [.int x4, .int 2]) (rest := [.ref h, .int x3]) ⟨hx, hb, hml, hown, hts⟩ (kX4_of l D cI x4 2 i 2 hx4 (rfl : (2 : Int32) = nI 2)) (va_cwS 2 hts gX4_ofHer_X4_of rfl rfl rfl hs_X4_of ⟨Nat.le_of_ble_eq_true rfl, Nat.le_of_ble_eq_true rfl⟩) hK hP [] rfl rfl hl.1 rfl (Nat.le_of_ble_eq_true rfl) dX4_ofHer_18 ⟨Nat.zero_le _, Nat.zero_le _⟩ (fun r_3 hr_3 => ?_)
      refine xa_ld hx hb hK hP 0 rfl (j := (oF i 2)) hr_3 (oF_lt (by omega) (by omega)) (by decide) dX4_ofHer_21 ?_
      refine lv_iload_n hx hb dX4_ofHer_22 rfl (lv_at hl 3 rfl) ?_
      refine lv_icmp_ne (tgt := 45) hx hb dX4_ofHer_23 (by decide) (fun c_4 => ?_) (fun c_4 => ?_)
      · skip
        refine lv_iconst (v := 0) hx hb dX4_ofHer_45 (by decide) ?_
        refine lv_ior hx hb dX4_ofHer_46 ?_
        refine lv_topi (fun x_5 ex_5 => ?_)
        refine lv_istore_n (lv' := [(3, .int x_5), (4, .int x4), (0, .ref h), (1, .int p0), (2, .int p1)]) hx hb dX4_ofHer_47 rfl hl (by decide) rfl (fun ls hl => ?_)
        obtain ⟨x_6, ex_6⟩ : ∃ z : Int32, z = x4 + 1 := ⟨_, rfl⟩
        refine lv_iinc (v := x_6) (lv' := [(4, .int x_6), (3, .int x_5), (0, .ref h), (1, .int p0), (2, .int p1)]) hx hb dX4_ofHer_48 hl (k := 1) rfl (by rw [ex_6]; rfl) (by decide) rfl (fun ls hl => ?_)
        refine lv_goto (tgt := 5) hx hb dX4_ofHer_51 (by decide) ?_
        exact ih_1 (i + 1) x_6 x_5 _ (by omega) (ni_add (a := i) (b := 1) ex_6 hx4 (rfl : (1 : Int32) = nI 1)) (by omega) (by clear ih_1; clear hret hP hK hts hown hx hb hml hl; subst_vars; first | (simp [mk, herP, b1, c_2, c_4]; done) | (simp_all [mk, herP, b1]; done) | (try simp only [mk, herP, b1]; (repeat' split) <;> first | rfl | contradiction | (simp_all; done) | (exfalso; simp only [not_and, Int32.lt_iff_toInt_lt, Int32.le_iff_toInt_le] at *; omega))) (lv_sub hl [0, 1, 2, 3, 4] rfl)
      refine lv_aload_n hx hb dX4_ofHer_26 rfl (lv_at hl 2 rfl) ?_
      refine lv_iload hx hb dX4_ofHer_27 (lv_at hl 0 rfl) ?_
      refine lv_iconst (v := 4) hx hb dX4_ofHer_29 (by decide) ?_
      refine xc_Si (As := [.int x4, .int 4]) (rest := [.ref h, .int x3]) ⟨hx, hb, hml, hown, hts⟩ (kX4_of l D cI x4 4 i 4 hx4 (rfl : (4 : Int32) = nI 4)) (va_cwS 2 hts gX4_ofHer_X4_of rfl rfl rfl hs_X4_of ⟨Nat.le_of_ble_eq_true rfl, Nat.le_of_ble_eq_true rfl⟩) hK hP [] rfl rfl hl.1 rfl (Nat.le_of_ble_eq_true rfl) dX4_ofHer_30 ⟨Nat.zero_le _, Nat.zero_le _⟩ (fun r_7 hr_7 => ?_)
      refine xa_ld hx hb hK hP 0 rfl (j := (oF i 4)) hr_7 (oF_lt (by omega) (by omega)) (by decide) dX4_ofHer_33 ?_
      refine lv_iload_n hx hb dX4_ofHer_34 rfl (lv_at hl 4 rfl) ?_
      refine lv_icmp_ne (tgt := 45) hx hb dX4_ofHer_35 (by decide) (fun c_8 => ?_) (fun c_8 => ?_)
      · skip
        refine lv_iconst (v := 0) hx hb dX4_ofHer_45 (by decide) ?_
        refine lv_ior hx hb dX4_ofHer_46 ?_
        refine lv_topi (fun x_9 ex_9 => ?_)
        refine lv_istore_n (lv' := [(3, .int x_9), (4, .int x4), (0, .ref h), (1, .int p0), (2, .int p1)]) hx hb dX4_ofHer_47 rfl hl (by decide) rfl (fun ls hl => ?_)
        obtain ⟨x_10, ex_10⟩ : ∃ z : Int32, z = x4 + 1 := ⟨_, rfl⟩
        refine lv_iinc (v := x_10) (lv' := [(4, .int x_10), (3, .int x_9), (0, .ref h), (1, .int p0), (2, .int p1)]) hx hb dX4_ofHer_48 hl (k := 1) rfl (by rw [ex_10]; rfl) (by decide) rfl (fun ls hl => ?_)
        refine lv_goto (tgt := 5) hx hb dX4_ofHer_51 (by decide) ?_
        exact ih_1 (i + 1) x_10 x_9 _ (by omega) (ni_add (a := i) (b := 1) ex_10 hx4 (rfl : (1 : Int32) = nI 1)) (by omega) (by clear ih_1; clear hret hP hK hts hown hx hb hml hl; subst_vars; first | (simp [mk, herP, b1, c_2, c_4, c_8]; done) | (simp_all [mk, herP, b1]; done) | (try simp only [mk, herP, b1]; (repeat' split) <;> first | rfl | contradiction | (simp_all; done) | (exfalso; simp only [not_and, Int32.lt_iff_toInt_lt, Int32.le_iff_toInt_le] at *; omega))) (lv_sub hl [0, 1, 2, 3, 4] rfl)
      refine lv_iconst (v := 1) hx hb dX4_ofHer_38 (by decide) ?_
      refine lv_iload hx hb dX4_ofHer_39 (lv_at hl 0 rfl) ?_
      refine lv_ishl hx hb dX4_ofHer_41 ?_
      refine lv_goto (tgt := 46) hx hb dX4_ofHer_42 (by decide) ?_
      refine lv_ior hx hb dX4_ofHer_46 ?_
      refine lv_topi (fun x_11 ex_11 => ?_)
      refine lv_istore_n (lv' := [(3, .int x_11), (4, .int x4), (0, .ref h), (1, .int p0), (2, .int p1)]) hx hb dX4_ofHer_47 rfl hl (by decide) rfl (fun ls hl => ?_)
      obtain ⟨x_12, ex_12⟩ : ∃ z : Int32, z = x4 + 1 := ⟨_, rfl⟩
      refine lv_iinc (v := x_12) (lv' := [(4, .int x_12), (3, .int x_11), (0, .ref h), (1, .int p0), (2, .int p1)]) hx hb dX4_ofHer_48 hl (k := 1) rfl (by rw [ex_12]; rfl) (by decide) rfl (fun ls hl => ?_)
      refine lv_goto (tgt := 5) hx hb dX4_ofHer_51 (by decide) ?_
      exact ih_1 (i + 1) x_12 x_11 _ (by omega) (ni_add (a := i) (b := 1) ex_12 hx4 (rfl : (1 : Int32) = nI 1)) (by omega) (by clear ih_1; clear hret hP hK hts hown hx hb hml hl; subst_vars; first | (simp [mk, herP, b1, c_2, c_4, c_8]; done) | (simp_all [mk, herP, b1]; done) | (try simp only [mk, herP, b1]; (repeat' split) <;> first | rfl | contradiction | (simp_all; done) | (exfalso; simp only [not_and, Int32.lt_iff_toInt_lt, Int32.le_iff_toInt_le] at *; omega))) (lv_sub hl [0, 1, 2, 3, 4] rfl)
  exact lp_5_1 ((n - 0) + 1) 0 0 0 _ (by omega) (rfl : (0 : Int32) = nI 0) (by omega) rfl (lv_sub hl [0, 1, 2, 3, 4] rfl)

set_option maxHeartbeats 4000000 in
set_option maxRecDepth 100000 in
theorem kX4_nestIn (l : Launch) (D : va_G) (cI : ClassId) (h : Nat) (r : RR) (n : Nat) (hI : Inv n r) (p0 : Int32) : Met l yX4_nestIn wsX4_nestIn ({ frames := 2, cells := 0, slots := 0, locals := 45 }) (PRO D cI [.ref h, .int p0] [(h, .inl (cI, 49, .inl r))]) (vp_Si (fun v => v = nst r n p0)) 0 0 (fun _ => False) := by
  refine st_roi (cc := cX4_nestIn) (maxL := 2) (rt := .int) (by decide) rfl (Nat.le_of_ble_eq_true rfl) (fun _ _ => rfl) ?_
  intro p e s m below meth c Q ls hx hb hml hts hown hP hK hl hret
  replace hown : s.vm.findClass RX4 = some m.cls := hown
  replace hl : lv_has ls 2 [(0, .ref h), (1, .int p0)] := hl
  have hn9 := hI.le
  refine lv_aload_n hx hb dX4_nestIn_0 rfl (lv_at hl 0 rfl) ?_
  refine lv_iload_n hx hb dX4_nestIn_1 rfl (lv_at hl 1 rfl) ?_
  refine lv_iconst (v := 1) hx hb dX4_nestIn_2 (by decide) ?_
  refine xc_Si (As := [.ref h, .int p0, .int 1]) (rest := []) ⟨hx, hb, hml, hown, hts⟩ (kX4_ofHer l D cI h r n hI p0 1) (va_cwS 3 hts gX4_nestIn_X4_ofHer rfl rfl rfl hs_X4_ofHer ⟨Nat.le_of_ble_eq_true rfl, Nat.le_of_ble_eq_true rfl⟩) hK hP [0] rfl rfl hl.1 rfl (Nat.le_of_ble_eq_true rfl) dX4_nestIn_3 ⟨Nat.zero_le _, Nat.zero_le _⟩ (fun r_1 hr_1 => ?_)
  exact hret 6 _ r_1 dX4_nestIn_6 (by clear hret hP hK hts hown hx hb hml hl; subst_vars; first | (simp [nst]; done) | (simp_all [nst]; done) | (try simp only [nst]; (repeat' split) <;> first | rfl | contradiction | (simp_all; done) | (exfalso; simp only [not_and, Int32.lt_iff_toInt_lt, Int32.le_iff_toInt_le] at *; omega)))

set_option maxHeartbeats 4000000 in
set_option maxRecDepth 100000 in
theorem kX4_holdsSet (l : Launch) (D : va_G) (cI : ClassId) (h : Nat) (r : RR) (n : Nat) (hI : Inv n r) (p0 : Int32) : Met l yX4_holdsSet wsX4_holdsSet ({ frames := 4, cells := 0, slots := 0, locals := 89 }) (PRO D cI [.ref h, .int p0] [(h, .inl (cI, 49, .inl r))]) (vp_Si (fun v => v = (if hld r n p0 = true then 1 else 0))) 0 0 (fun _ => False) := by
  refine st_roi (cc := cX4_holdsSet) (maxL := 2) (rt := .boolean) (by decide) rfl (Nat.le_of_ble_eq_true rfl) (by intro v h; subst h; split <;> rfl) ?_
  intro p e s m below meth c Q ls hx hb hml hts hown hP hK hl hret
  replace hown : s.vm.findClass RX4 = some m.cls := hown
  replace hl : lv_has ls 2 [(0, .ref h), (1, .int p0)] := hl
  have hn9 := hI.le
  refine lv_aload_n hx hb dX4_holdsSet_0 rfl (lv_at hl 0 rfl) ?_
  refine lv_iload_n hx hb dX4_holdsSet_1 rfl (lv_at hl 1 rfl) ?_
  refine lv_iconst (v := 2) hx hb dX4_holdsSet_2 (by decide) ?_
  refine xc_Si (As := [.ref h, .int p0, .int 2]) (rest := []) ⟨hx, hb, hml, hown, hts⟩ (kX4_sumOf l D cI h r n hI p0 2) (va_cwS 3 hts gX4_holdsSet_X4_sumOf rfl rfl rfl hs_X4_sumOf ⟨Nat.le_of_ble_eq_true rfl, Nat.le_of_ble_eq_true rfl⟩) hK hP [0] rfl rfl hl.1 rfl (Nat.le_of_ble_eq_true rfl) dX4_holdsSet_3 ⟨Nat.zero_le _, Nat.zero_le _⟩ (fun r_1 hr_1 => ?_)
  refine lv_aload_n hx hb dX4_holdsSet_6 rfl (lv_at hl 0 rfl) ?_
  refine lv_iload_n hx hb dX4_holdsSet_7 rfl (lv_at hl 1 rfl) ?_
  refine lv_iconst (v := 3) hx hb dX4_holdsSet_8 (by decide) ?_
  refine xc_Si (As := [.ref h, .int p0, .int 3]) (rest := [.int r_1]) ⟨hx, hb, hml, hown, hts⟩ (kX4_sumOf l D cI h r n hI p0 3) (va_cwS 3 hts gX4_holdsSet_X4_sumOf rfl rfl rfl hs_X4_sumOf ⟨Nat.le_of_ble_eq_true rfl, Nat.le_of_ble_eq_true rfl⟩) hK hP [0] rfl rfl hl.1 rfl (Nat.le_of_ble_eq_true rfl) dX4_holdsSet_9 ⟨Nat.zero_le _, Nat.zero_le _⟩ (fun r_2 hr_2 => ?_)
  refine lv_icmp_lt (tgt := 19) hx hb dX4_holdsSet_12 (by decide) (fun c_3 => ?_) (fun c_3 => ?_)
  · skip
    refine lv_iconst (v := 0) hx hb dX4_holdsSet_19 (by decide) ?_
    exact hret 20 _ 0 dX4_holdsSet_20 (by clear hret hP hK hts hown hx hb hml hl; subst_vars; first | (simp [hld, c_3]; done) | (simp_all [hld]; done) | (try simp only [hld]; (repeat' split) <;> first | rfl | contradiction | (simp_all; done) | (exfalso; simp only [not_and, Int32.lt_iff_toInt_lt, Int32.le_iff_toInt_le] at *; omega)))
  refine lv_iconst (v := 1) hx hb dX4_holdsSet_15 (by decide) ?_
  refine lv_goto (tgt := 20) hx hb dX4_holdsSet_16 (by decide) ?_
  exact hret 20 _ 1 dX4_holdsSet_20 (by clear hret hP hK hts hown hx hb hml hl; subst_vars; first | (simp [hld, c_3]; done) | (simp_all [hld]; done) | (try simp only [hld]; (repeat' split) <;> first | rfl | contradiction | (simp_all; done) | (exfalso; simp only [not_and, Int32.lt_iff_toInt_lt, Int32.le_iff_toInt_le] at *; omega)))

set_option maxHeartbeats 4000000 in
set_option maxRecDepth 100000 in
theorem kX4_inNests (l : Launch) (D : va_G) (cI : ClassId) (h : Nat) (r : RR) (n : Nat) (hI : Inv n r) : Met l yX4_inNests wsX4_inNests ({ frames := 1, cells := 0, slots := 0, locals := 21 }) (PRO D cI [.ref h] [(h, .inl (cI, 49, .inl r))]) (vp_Si (fun v => v = inS r n)) 0 0 (fun _ => False) := by
  refine st_roi (cc := cX4_inNests) (maxL := 3) (rt := .int) (by decide) rfl (Nat.le_of_ble_eq_true rfl) (fun _ _ => rfl) ?_
  intro p e s m below meth c Q ls hx hb hml hts hown hP hK hl hret
  replace hown : s.vm.findClass RX4 = some m.cls := hown
  replace hl : lv_has ls 3 [(0, .ref h)] := hl
  have hn9 := hI.le
  refine lv_iconst (v := 0) hx hb dX4_inNests_0 (by decide) ?_
  refine lv_istore_n (lv' := [(1, .int 0), (0, .ref h)]) hx hb dX4_inNests_1 rfl hl (by decide) rfl (fun ls hl => ?_)
  refine lv_iconst (v := 0) hx hb dX4_inNests_2 (by decide) ?_
  refine lv_istore_n (lv' := [(2, .int 0), (1, .int 0), (0, .ref h)]) hx hb dX4_inNests_3 rfl hl (by decide) rfl (fun ls hl => ?_)
  have lp_4_1 : ∀ (fu : Nat) (i : Nat) (x2 : Int32) (x1 : Int32) (ls : Array Slot), n - i < fu → (x2 = nI i) → (i ≤ n) → (x1 = inS r i) → lv_has ls 3 [(2, .int x2), (1, .int x1), (0, .ref h)] → W p l e ({ frames := 1, cells := 0, slots := 0, locals := 21 }) s m [.ref h].toArray below meth c s.heap [] 0 0 Q (F0 m 4 ls []) := by
    intro fu
    induction fu with
    | zero =>
      intro i x2 x1 ls hfu
      exact absurd hfu (Nat.not_lt_zero _)
    | succ fu ih_1 =>
      intro i x2 x1 ls hfu hx2 hi hx1 hl
      refine lv_iload_n hx hb dX4_inNests_4 rfl (lv_at hl 0 rfl) ?_
      refine lv_aload_n hx hb dX4_inNests_5 rfl (lv_at hl 2 rfl) ?_
      refine lv_iconst (v := 0) hx hb dX4_inNests_6 (by decide) ?_
      refine xa_ld hx hb hK hP 0 rfl (j := 0) (rfl : (0 : Int32) = nI 0) (by omega) (by decide) dX4_inNests_7 ?_
      refine lv_icmp_ge (tgt := 29) hx hb dX4_inNests_8 (by decide) (fun c_2 => ?_) (fun c_2 => ?_)
      · skip
        have n_2 : n ≤ i := (ni_le (a := n) (b := i) hI.n0 hx2 (by omega) (by omega)).mp c_2
        refine lv_iload_n hx hb dX4_inNests_29 rfl (lv_at hl 1 rfl) ?_
        exact hret 30 _ x1 dX4_inNests_30 (by have e9 : i = n := (by omega); subst e9; exact hx1)
      have n_2 : ¬ n ≤ i := fun q => c_2 ((ni_le (a := n) (b := i) hI.n0 hx2 (by omega) (by omega)).mpr q)
      refine lv_iload_n hx hb dX4_inNests_11 rfl (lv_at hl 1 rfl) ?_
      refine lv_aload_n hx hb dX4_inNests_12 rfl (lv_at hl 2 rfl) ?_
      refine lv_iload_n hx hb dX4_inNests_13 rfl (lv_at hl 0 rfl) ?_
      refine lv_iconst (v := 4) hx hb dX4_inNests_14 (by decide) ?_
      refine xc_Si (As := [.int x2, .int 4]) (rest := [.ref h, .int x1]) ⟨hx, hb, hml, hown, hts⟩ (kX4_of l D cI x2 4 i 4 hx2 (rfl : (4 : Int32) = nI 4)) (va_cwS 2 hts gX4_inNests_X4_of rfl rfl rfl hs_X4_of ⟨Nat.le_of_ble_eq_true rfl, Nat.le_of_ble_eq_true rfl⟩) hK hP [] rfl rfl hl.1 rfl (Nat.le_of_ble_eq_true rfl) dX4_inNests_15 ⟨Nat.zero_le _, Nat.zero_le _⟩ (fun r_3 hr_3 => ?_)
      refine xa_ld hx hb hK hP 0 rfl (j := (oF i 4)) hr_3 (oF_lt (by omega) (by omega)) (by decide) dX4_inNests_18 ?_
      refine lv_iload_n hx hb dX4_inNests_19 rfl (lv_at hl 0 rfl) ?_
      refine lv_ishl hx hb dX4_inNests_20 ?_
      refine lv_ior hx hb dX4_inNests_21 ?_
      refine lv_topi (fun x_4 ex_4 => ?_)
      refine lv_istore_n (lv' := [(1, .int x_4), (2, .int x2), (0, .ref h)]) hx hb dX4_inNests_22 rfl hl (by decide) rfl (fun ls hl => ?_)
      obtain ⟨x_5, ex_5⟩ : ∃ z : Int32, z = x2 + 1 := ⟨_, rfl⟩
      refine lv_iinc (v := x_5) (lv' := [(2, .int x_5), (1, .int x_4), (0, .ref h)]) hx hb dX4_inNests_23 hl (k := 1) rfl (by rw [ex_5]; rfl) (by decide) rfl (fun ls hl => ?_)
      refine lv_goto (tgt := 4) hx hb dX4_inNests_26 (by decide) ?_
      exact ih_1 (i + 1) x_5 x_4 _ (by omega) (ni_add (a := i) (b := 1) ex_5 hx2 (rfl : (1 : Int32) = nI 1)) (by omega) (by clear ih_1; clear hret hP hK hts hown hx hb hml hl; obtain ⟨-, -, -, -, b9, hb9, eb9⟩ := hI.2.2 i (by omega); subst_vars; exact inS_step (by omega) hb9 eb9) (lv_sub hl [0, 1, 2] rfl)
  exact lp_4_1 ((n - 0) + 1) 0 0 0 _ (by omega) (rfl : (0 : Int32) = nI 0) (by omega) rfl (lv_sub hl [0, 1, 2] rfl)

set_option maxHeartbeats 4000000 in
set_option maxRecDepth 100000 in
theorem kX4_leastSaid (l : Launch) (D : va_G) (cI : ClassId) (h : Nat) (r : RR) (n : Nat) (hI : Inv n r) (p0 : Int32) : Met l yX4_leastSaid wsX4_leastSaid ({ frames := 1, cells := 0, slots := 0, locals := 21 }) (PRO D cI [.ref h, .int p0] [(h, .inl (cI, 49, .inl r))]) (vp_Si (fun v => v = (if ff (herP r p0 0) n < n then nI (ff (herP r p0 0) n) else -9))) 0 0 (fun _ => False) := by
  refine st_roi (cc := cX4_leastSaid) (maxL := 3) (rt := .int) (by decide) rfl (Nat.le_of_ble_eq_true rfl) (fun _ _ => rfl) ?_
  intro p e s m below meth c Q ls hx hb hml hts hown hP hK hl hret
  replace hown : s.vm.findClass RX4 = some m.cls := hown
  replace hl : lv_has ls 3 [(0, .ref h), (1, .int p0)] := hl
  have hn9 := hI.le
  refine lv_iconst (v := 0) hx hb dX4_leastSaid_0 (by decide) ?_
  refine lv_istore_n (lv' := [(2, .int 0), (0, .ref h), (1, .int p0)]) hx hb dX4_leastSaid_1 rfl hl (by decide) rfl (fun ls hl => ?_)
  have lp_2_1 : ∀ (fu : Nat) (i : Nat) (x2 : Int32) (ls : Array Slot), n - i < fu → (x2 = nI i) → (i ≤ n) → (∀ j, j < i → herP r p0 0 j = false) → lv_has ls 3 [(2, .int x2), (0, .ref h), (1, .int p0)] → W p l e ({ frames := 1, cells := 0, slots := 0, locals := 21 }) s m [.ref h, .int p0].toArray below meth c s.heap [] 0 0 Q (F0 m 2 ls []) := by
    intro fu
    induction fu with
    | zero =>
      intro i x2 ls hfu
      exact absurd hfu (Nat.not_lt_zero _)
    | succ fu ih_1 =>
      intro i x2 ls hfu hx2 hi hj hl
      refine lv_iload_n hx hb dX4_leastSaid_2 rfl (lv_at hl 0 rfl) ?_
      refine lv_aload_n hx hb dX4_leastSaid_3 rfl (lv_at hl 1 rfl) ?_
      refine lv_iconst (v := 0) hx hb dX4_leastSaid_4 (by decide) ?_
      refine xa_ld hx hb hK hP 0 rfl (j := 0) (rfl : (0 : Int32) = nI 0) (by omega) (by decide) dX4_leastSaid_5 ?_
      refine lv_icmp_ge (tgt := 38) hx hb dX4_leastSaid_6 (by decide) (fun c_2 => ?_) (fun c_2 => ?_)
      · skip
        have n_2 : n ≤ i := (ni_le (a := n) (b := i) hI.n0 hx2 (by omega) (by omega)).mp c_2
        refine lv_bipush (v := (-9)) hx hb dX4_leastSaid_38 (by decide) ?_
        exact hret 40 _ (-9) dX4_leastSaid_40 (by clear ih_1; clear hret hP hK hts hown hx hb hml hl; have e9 : i = n := (by omega); subst e9; rw [ff_none hj]; simp)
      have n_2 : ¬ n ≤ i := fun q => c_2 ((ni_le (a := n) (b := i) hI.n0 hx2 (by omega) (by omega)).mpr q)
      refine lv_aload_n hx hb dX4_leastSaid_9 rfl (lv_at hl 1 rfl) ?_
      refine lv_iload_n hx hb dX4_leastSaid_10 rfl (lv_at hl 0 rfl) ?_
      refine lv_iconst (v := 2) hx hb dX4_leastSaid_11 (by decide) ?_
      refine xc_Si (As := [.int x2, .int 2]) (rest := [.ref h]) ⟨hx, hb, hml, hown, hts⟩ (kX4_of l D cI x2 2 i 2 hx2 (rfl : (2 : Int32) = nI 2)) (va_cwS 2 hts gX4_leastSaid_X4_of rfl rfl rfl hs_X4_of ⟨Nat.le_of_ble_eq_true rfl, Nat.le_of_ble_eq_true rfl⟩) hK hP [] rfl rfl hl.1 rfl (Nat.le_of_ble_eq_true rfl) dX4_leastSaid_12 ⟨Nat.zero_le _, Nat.zero_le _⟩ (fun r_3 hr_3 => ?_)
      refine xa_ld hx hb hK hP 0 rfl (j := (oF i 2)) hr_3 (oF_lt (by omega) (by omega)) (by decide) dX4_leastSaid_15 ?_
      refine lv_iload_n hx hb dX4_leastSaid_16 rfl (lv_at hl 2 rfl) ?_
      refine lv_icmp_ne (tgt := 32) hx hb dX4_leastSaid_17 (by decide) (fun c_4 => ?_) (fun c_4 => ?_)
      · skip
        obtain ⟨x_5, ex_5⟩ : ∃ z : Int32, z = x2 + 1 := ⟨_, rfl⟩
        refine lv_iinc (v := x_5) (lv' := [(2, .int x_5), (0, .ref h), (1, .int p0)]) hx hb dX4_leastSaid_32 hl (k := 0) rfl (by rw [ex_5]; rfl) (by decide) rfl (fun ls hl => ?_)
        refine lv_goto (tgt := 2) hx hb dX4_leastSaid_35 (by decide) ?_
        exact ih_1 (i + 1) x_5 _ (by omega) (ni_add (a := i) (b := 1) ex_5 hx2 (rfl : (1 : Int32) = nI 1)) (by omega) (lt_s hj (by clear ih_1; clear hret hP hK hts hown hx hb hml hl; subst_vars; first | (simp [herP, c_2, c_4]; done) | (simp_all [herP]; done) | (try simp only [herP]; (repeat' split) <;> first | rfl | contradiction | (simp_all; done) | (exfalso; simp only [not_and, Int32.lt_iff_toInt_lt, Int32.le_iff_toInt_le] at *; omega)))) (lv_sub hl [0, 1, 2] rfl)
      refine lv_aload_n hx hb dX4_leastSaid_20 rfl (lv_at hl 1 rfl) ?_
      refine lv_iload_n hx hb dX4_leastSaid_21 rfl (lv_at hl 0 rfl) ?_
      refine lv_iconst (v := 4) hx hb dX4_leastSaid_22 (by decide) ?_
      refine xc_Si (As := [.int x2, .int 4]) (rest := [.ref h]) ⟨hx, hb, hml, hown, hts⟩ (kX4_of l D cI x2 4 i 4 hx2 (rfl : (4 : Int32) = nI 4)) (va_cwS 2 hts gX4_leastSaid_X4_of rfl rfl rfl hs_X4_of ⟨Nat.le_of_ble_eq_true rfl, Nat.le_of_ble_eq_true rfl⟩) hK hP [] rfl rfl hl.1 rfl (Nat.le_of_ble_eq_true rfl) dX4_leastSaid_23 ⟨Nat.zero_le _, Nat.zero_le _⟩ (fun r_6 hr_6 => ?_)
      refine xa_ld hx hb hK hP 0 rfl (j := (oF i 4)) hr_6 (oF_lt (by omega) (by omega)) (by decide) dX4_leastSaid_26 ?_
      refine lv_if_ne (tgt := 32) hx hb dX4_leastSaid_27 (by decide) (fun c_7 => ?_) (fun c_7 => ?_)
      · skip
        obtain ⟨x_8, ex_8⟩ : ∃ z : Int32, z = x2 + 1 := ⟨_, rfl⟩
        refine lv_iinc (v := x_8) (lv' := [(2, .int x_8), (0, .ref h), (1, .int p0)]) hx hb dX4_leastSaid_32 hl (k := 0) rfl (by rw [ex_8]; rfl) (by decide) rfl (fun ls hl => ?_)
        refine lv_goto (tgt := 2) hx hb dX4_leastSaid_35 (by decide) ?_
        exact ih_1 (i + 1) x_8 _ (by omega) (ni_add (a := i) (b := 1) ex_8 hx2 (rfl : (1 : Int32) = nI 1)) (by omega) (lt_s hj (by clear ih_1; clear hret hP hK hts hown hx hb hml hl; subst_vars; first | (simp [herP, c_2, c_4, c_7]; done) | (simp_all [herP]; done) | (try simp only [herP]; (repeat' split) <;> first | rfl | contradiction | (simp_all; done) | (exfalso; simp only [not_and, Int32.lt_iff_toInt_lt, Int32.le_iff_toInt_le] at *; omega)))) (lv_sub hl [0, 1, 2] rfl)
      refine lv_iload_n hx hb dX4_leastSaid_30 rfl (lv_at hl 0 rfl) ?_
      exact hret 31 _ x2 dX4_leastSaid_31 (by clear ih_1; clear hret hP hK hts hown hx hb hml hl; have e9 : ff (herP r p0 0) n = i := ff_eq (by omega) (by subst_vars; simp_all [herP]) hj; rw [e9, if_pos (by omega)]; exact hx2)
  exact lp_2_1 ((n - 0) + 1) 0 0 _ (by omega) (rfl : (0 : Int32) = nI 0) (by omega) (fun j hj => absurd hj (Nat.not_lt_zero _)) (lv_sub hl [0, 1, 2] rfl)

set_option maxHeartbeats 4000000 in
set_option maxRecDepth 100000 in
theorem kX4_lacksOf (l : Launch) (D : va_G) (cI : ClassId) (h : Nat) (r : RR) (n : Nat) (hI : Inv n r) (p0 : Int32) : Met l yX4_lacksOf wsX4_lacksOf ({ frames := 4, cells := 0, slots := 0, locals := 89 }) (PRO D cI [.ref h, .int p0] [(h, .inl (cI, 49, .inl r))]) (vp_Si (fun v => v = (if sumN r p0 3 n - sumN r p0 2 n < 0 then 0 else sumN r p0 3 n - sumN r p0 2 n))) 0 0 (fun _ => False) := by
  refine st_roi (cc := cX4_lacksOf) (maxL := 3) (rt := .int) (by decide) rfl (Nat.le_of_ble_eq_true rfl) (fun _ _ => rfl) ?_
  intro p e s m below meth c Q ls hx hb hml hts hown hP hK hl hret
  replace hown : s.vm.findClass RX4 = some m.cls := hown
  replace hl : lv_has ls 3 [(0, .ref h), (1, .int p0)] := hl
  have hn9 := hI.le
  refine lv_aload_n hx hb dX4_lacksOf_0 rfl (lv_at hl 0 rfl) ?_
  refine lv_iload_n hx hb dX4_lacksOf_1 rfl (lv_at hl 1 rfl) ?_
  refine lv_iconst (v := 3) hx hb dX4_lacksOf_2 (by decide) ?_
  refine xc_Si (As := [.ref h, .int p0, .int 3]) (rest := []) ⟨hx, hb, hml, hown, hts⟩ (kX4_sumOf l D cI h r n hI p0 3) (va_cwS 3 hts gX4_lacksOf_X4_sumOf rfl rfl rfl hs_X4_sumOf ⟨Nat.le_of_ble_eq_true rfl, Nat.le_of_ble_eq_true rfl⟩) hK hP [0] rfl rfl hl.1 rfl (Nat.le_of_ble_eq_true rfl) dX4_lacksOf_3 ⟨Nat.zero_le _, Nat.zero_le _⟩ (fun r_1 hr_1 => ?_)
  refine lv_aload_n hx hb dX4_lacksOf_6 rfl (lv_at hl 0 rfl) ?_
  refine lv_iload_n hx hb dX4_lacksOf_7 rfl (lv_at hl 1 rfl) ?_
  refine lv_iconst (v := 2) hx hb dX4_lacksOf_8 (by decide) ?_
  refine xc_Si (As := [.ref h, .int p0, .int 2]) (rest := [.int r_1]) ⟨hx, hb, hml, hown, hts⟩ (kX4_sumOf l D cI h r n hI p0 2) (va_cwS 3 hts gX4_lacksOf_X4_sumOf rfl rfl rfl hs_X4_sumOf ⟨Nat.le_of_ble_eq_true rfl, Nat.le_of_ble_eq_true rfl⟩) hK hP [0] rfl rfl hl.1 rfl (Nat.le_of_ble_eq_true rfl) dX4_lacksOf_9 ⟨Nat.zero_le _, Nat.zero_le _⟩ (fun r_2 hr_2 => ?_)
  refine lv_isub hx hb dX4_lacksOf_12 ?_
  refine lv_topi (fun x_3 ex_3 => ?_)
  refine lv_istore_n (lv' := [(2, .int x_3), (0, .ref h), (1, .int p0)]) hx hb dX4_lacksOf_13 rfl hl (by decide) rfl (fun ls hl => ?_)
  refine lv_iload_n hx hb dX4_lacksOf_14 rfl (lv_at hl 0 rfl) ?_
  refine lv_if_ge (tgt := 22) hx hb dX4_lacksOf_15 (by decide) (fun c_4 => ?_) (fun c_4 => ?_)
  · skip
    refine lv_iload_n hx hb dX4_lacksOf_22 rfl (lv_at hl 0 rfl) ?_
    exact hret 23 _ x_3 dX4_lacksOf_23 (by clear hret hP hK hts hown hx hb hml hl; subst_vars; first | (simp [c_4]; done) | (simp_all []; done) | ((repeat' split) <;> first | rfl | contradiction | (simp_all; done) | (exfalso; simp only [not_and, Int32.lt_iff_toInt_lt, Int32.le_iff_toInt_le] at *; omega)))
  refine lv_iconst (v := 0) hx hb dX4_lacksOf_18 (by decide) ?_
  refine lv_goto (tgt := 23) hx hb dX4_lacksOf_19 (by decide) ?_
  exact hret 23 _ 0 dX4_lacksOf_23 (by clear hret hP hK hts hown hx hb hml hl; subst_vars; first | (simp [c_4]; done) | (simp_all []; done) | ((repeat' split) <;> first | rfl | contradiction | (simp_all; done) | (exfalso; simp only [not_and, Int32.lt_iff_toInt_lt, Int32.le_iff_toInt_le] at *; omega)))

set_option maxHeartbeats 4000000 in
set_option maxRecDepth 100000 in
theorem kX4_softAll (l : Launch) (D : va_G) (cI : ClassId) (h : Nat) (r : RR) (n : Nat) (hI : Inv n r) : Met l yX4_softAll wsX4_softAll ({ frames := 4, cells := 0, slots := 0, locals := 89 }) (PRO D cI [.ref h] [(h, .inl (cI, 49, .inl r))]) (vp_Si (fun v => v = sumN r (inS r n) 1 n)) 0 0 (fun _ => False) := by
  refine st_roi (cc := cX4_softAll) (maxL := 1) (rt := .int) (by decide) rfl (Nat.le_of_ble_eq_true rfl) (fun _ _ => rfl) ?_
  intro p e s m below meth c Q ls hx hb hml hts hown hP hK hl hret
  replace hown : s.vm.findClass RX4 = some m.cls := hown
  replace hl : lv_has ls 1 [(0, .ref h)] := hl
  have hn9 := hI.le
  refine lv_aload_n hx hb dX4_softAll_0 rfl (lv_at hl 0 rfl) ?_
  refine lv_aload_n hx hb dX4_softAll_1 rfl (lv_at hl 0 rfl) ?_
  refine xc_Si (As := [.ref h]) (rest := [.ref h]) ⟨hx, hb, hml, hown, hts⟩ (kX4_inNests l D cI h r n hI) (va_cwS 1 hts gX4_softAll_X4_inNests rfl rfl rfl hs_X4_inNests ⟨Nat.le_of_ble_eq_true rfl, Nat.le_of_ble_eq_true rfl⟩) hK hP [0] rfl rfl hl.1 rfl (Nat.le_of_ble_eq_true rfl) dX4_softAll_2 ⟨Nat.zero_le _, Nat.zero_le _⟩ (fun r_1 hr_1 => ?_)
  refine lv_iconst (v := 1) hx hb dX4_softAll_5 (by decide) ?_
  refine xc_Si (As := [.ref h, .int r_1, .int 1]) (rest := []) ⟨hx, hb, hml, hown, hts⟩ (kX4_sumOf l D cI h r n hI r_1 1) (va_cwS 3 hts gX4_softAll_X4_sumOf rfl rfl rfl hs_X4_sumOf ⟨Nat.le_of_ble_eq_true rfl, Nat.le_of_ble_eq_true rfl⟩) hK hP [0] rfl rfl hl.1 rfl (Nat.le_of_ble_eq_true rfl) dX4_softAll_6 ⟨Nat.zero_le _, Nat.zero_le _⟩ (fun r_2 hr_2 => ?_)
  exact hret 9 _ r_2 dX4_softAll_9 (by clear hret hP hK hts hown hx hb hml hl; subst_vars; first | (simp []; done) | (simp_all []; done) | ((repeat' split) <;> first | rfl | contradiction | (simp_all; done) | (exfalso; simp only [not_and, Int32.lt_iff_toInt_lt, Int32.le_iff_toInt_le] at *; omega)))

set_option maxHeartbeats 4000000 in
set_option maxRecDepth 100000 in
theorem kX4_wrongBy (l : Launch) (D : va_G) (cI : ClassId) (p0 p1 p2 : Int32) : Met l yX4_wrongBy wsX4_wrongBy ({ frames := 0, cells := 0, slots := 0, locals := 0 }) (PRO D cI [.int p0, .int p1, .int p2] []) (vp_Si (fun v => v = (if p0 < p1 then -4 else if p2 < p0 then -6 else 0))) 0 0 (fun _ => False) := by
  refine st_roi (cc := cX4_wrongBy) (maxL := 3) (rt := .int) (by decide) rfl (Nat.le_of_ble_eq_true rfl) (fun _ _ => rfl) ?_
  intro p e s m below meth c Q ls hx hb hml hts hown hP hK hl hret
  replace hown : s.vm.findClass RX4 = some m.cls := hown
  replace hl : lv_has ls 3 [(0, .int p0), (1, .int p1), (2, .int p2)] := hl
  refine lv_iload_n hx hb dX4_wrongBy_0 rfl (lv_at hl 0 rfl) ?_
  refine lv_iload_n hx hb dX4_wrongBy_1 rfl (lv_at hl 1 rfl) ?_
  refine lv_icmp_ge (tgt := 10) hx hb dX4_wrongBy_2 (by decide) (fun c_1 => ?_) (fun c_1 => ?_)
  · skip
    refine lv_iload_n hx hb dX4_wrongBy_10 rfl (lv_at hl 0 rfl) ?_
    refine lv_iload_n hx hb dX4_wrongBy_11 rfl (lv_at hl 2 rfl) ?_
    refine lv_icmp_le (tgt := 20) hx hb dX4_wrongBy_12 (by decide) (fun c_2 => ?_) (fun c_2 => ?_)
    · skip
      refine lv_iconst (v := 0) hx hb dX4_wrongBy_20 (by decide) ?_
      exact hret 21 _ 0 dX4_wrongBy_21 (by clear hret hP hK hts hown hx hb hml hl; subst_vars; first | (simp [c_1, c_2]; done) | (simp_all []; done) | ((repeat' split) <;> first | rfl | contradiction | (simp_all; done) | (exfalso; simp only [not_and, Int32.lt_iff_toInt_lt, Int32.le_iff_toInt_le] at *; omega)))
    refine lv_bipush (v := (-6)) hx hb dX4_wrongBy_15 (by decide) ?_
    refine lv_goto (tgt := 21) hx hb dX4_wrongBy_17 (by decide) ?_
    exact hret 21 _ (-6) dX4_wrongBy_21 (by clear hret hP hK hts hown hx hb hml hl; subst_vars; first | (simp [c_1, c_2]; done) | (simp_all []; done) | ((repeat' split) <;> first | rfl | contradiction | (simp_all; done) | (exfalso; simp only [not_and, Int32.lt_iff_toInt_lt, Int32.le_iff_toInt_le] at *; omega)))
  refine lv_bipush (v := (-4)) hx hb dX4_wrongBy_5 (by decide) ?_
  refine lv_goto (tgt := 21) hx hb dX4_wrongBy_7 (by decide) ?_
  exact hret 21 _ (-4) dX4_wrongBy_21 (by clear hret hP hK hts hown hx hb hml hl; subst_vars; first | (simp [c_1]; done) | (simp_all []; done) | ((repeat' split) <;> first | rfl | contradiction | (simp_all; done) | (exfalso; simp only [not_and, Int32.lt_iff_toInt_lt, Int32.le_iff_toInt_le] at *; omega)))

set_option maxHeartbeats 4000000 in
set_option maxRecDepth 100000 in
theorem kX4_kindBy (l : Launch) (D : va_G) (cI : ClassId) (p0 : Int32) : Met l yX4_kindBy wsX4_kindBy ({ frames := 0, cells := 0, slots := 0, locals := 0 }) (PRO D cI [.int p0] []) (vp_Si (fun v => v = kndOf p0)) 0 0 (fun _ => False) := by
  refine st_roi (cc := cX4_kindBy) (maxL := 1) (rt := .int) (by decide) rfl (Nat.le_of_ble_eq_true rfl) (fun _ _ => rfl) ?_
  intro p e s m below meth c Q ls hx hb hml hts hown hP hK hl hret
  replace hown : s.vm.findClass RX4 = some m.cls := hown
  replace hl : lv_has ls 1 [(0, .int p0)] := hl
  refine lv_iload_n hx hb dX4_kindBy_0 rfl (lv_at hl 0 rfl) ?_
  by_cases c_1 : p0 = 103
  · refine xs_tin (k := 103) (off := 71) (tgt := 72) hx hb dX4_kindBy_1 c_1 (by decide) (by decide) (by decide) (by decide) (by decide) ?_
    refine lv_iconst (v := 0) hx hb dX4_kindBy_72 (by decide) ?_
    exact hret 73 _ 0 dX4_kindBy_73 (by clear hret hP hK hts hown hx hb hml hl; subst_vars; first | (simp [kndOf, c_1]; done) | (simp_all [kndOf]; done) | (try simp only [kndOf]; (repeat' split) <;> first | rfl | contradiction | (simp_all; done) | (exfalso; simp only [not_and, Int32.lt_iff_toInt_lt, Int32.le_iff_toInt_le] at *; omega)))
  by_cases c_2 : p0 = 104
  · refine xs_tin (k := 104) (off := 77) (tgt := 78) hx hb dX4_kindBy_1 c_2 (by decide) (by decide) (by decide) (by decide) (by decide) ?_
    refine lv_iconst (v := 3) hx hb dX4_kindBy_78 (by decide) ?_
    exact hret 79 _ 3 dX4_kindBy_79 (by clear hret hP hK hts hown hx hb hml hl; subst_vars; first | (simp [kndOf, c_1, c_2]; done) | (simp_all [kndOf]; done) | (try simp only [kndOf]; (repeat' split) <;> first | rfl | contradiction | (simp_all; done) | (exfalso; simp only [not_and, Int32.lt_iff_toInt_lt, Int32.le_iff_toInt_le] at *; omega)))
  by_cases c_3 : p0 = 105
  · refine xs_tin (k := 105) (off := 83) (tgt := 84) hx hb dX4_kindBy_1 c_3 (by decide) (by decide) (by decide) (by decide) (by decide) ?_
    refine lv_bipush (v := (-9)) hx hb dX4_kindBy_84 (by decide) ?_
    exact hret 86 _ (-9) dX4_kindBy_86 (by clear hret hP hK hts hown hx hb hml hl; subst_vars; first | (simp [kndOf, c_1, c_2, c_3]; done) | (simp_all [kndOf]; done) | (try simp only [kndOf]; (repeat' split) <;> first | rfl | contradiction | (simp_all; done) | (exfalso; simp only [not_and, Int32.lt_iff_toInt_lt, Int32.le_iff_toInt_le] at *; omega)))
  by_cases c_4 : p0 = 106
  · refine xs_tin (k := 106) (off := 83) (tgt := 84) hx hb dX4_kindBy_1 c_4 (by decide) (by decide) (by decide) (by decide) (by decide) ?_
    refine lv_bipush (v := (-9)) hx hb dX4_kindBy_84 (by decide) ?_
    exact hret 86 _ (-9) dX4_kindBy_86 (by clear hret hP hK hts hown hx hb hml hl; subst_vars; first | (simp [kndOf, c_1, c_2, c_3, c_4]; done) | (simp_all [kndOf]; done) | (try simp only [kndOf]; (repeat' split) <;> first | rfl | contradiction | (simp_all; done) | (exfalso; simp only [not_and, Int32.lt_iff_toInt_lt, Int32.le_iff_toInt_le] at *; omega)))
  by_cases c_5 : p0 = 107
  · refine xs_tin (k := 107) (off := 83) (tgt := 84) hx hb dX4_kindBy_1 c_5 (by decide) (by decide) (by decide) (by decide) (by decide) ?_
    refine lv_bipush (v := (-9)) hx hb dX4_kindBy_84 (by decide) ?_
    exact hret 86 _ (-9) dX4_kindBy_86 (by clear hret hP hK hts hown hx hb hml hl; subst_vars; first | (simp [kndOf, c_1, c_2, c_3, c_4, c_5]; done) | (simp_all [kndOf]; done) | (try simp only [kndOf]; (repeat' split) <;> first | rfl | contradiction | (simp_all; done) | (exfalso; simp only [not_and, Int32.lt_iff_toInt_lt, Int32.le_iff_toInt_le] at *; omega)))
  by_cases c_6 : p0 = 108
  · refine xs_tin (k := 108) (off := 81) (tgt := 82) hx hb dX4_kindBy_1 c_6 (by decide) (by decide) (by decide) (by decide) (by decide) ?_
    refine lv_iconst (v := 5) hx hb dX4_kindBy_82 (by decide) ?_
    exact hret 83 _ 5 dX4_kindBy_83 (by clear hret hP hK hts hown hx hb hml hl; subst_vars; first | (simp [kndOf, c_1, c_2, c_3, c_4, c_5, c_6]; done) | (simp_all [kndOf]; done) | (try simp only [kndOf]; (repeat' split) <;> first | rfl | contradiction | (simp_all; done) | (exfalso; simp only [not_and, Int32.lt_iff_toInt_lt, Int32.le_iff_toInt_le] at *; omega)))
  by_cases c_7 : p0 = 109
  · refine xs_tin (k := 109) (off := 75) (tgt := 76) hx hb dX4_kindBy_1 c_7 (by decide) (by decide) (by decide) (by decide) (by decide) ?_
    refine lv_iconst (v := 2) hx hb dX4_kindBy_76 (by decide) ?_
    exact hret 77 _ 2 dX4_kindBy_77 (by clear hret hP hK hts hown hx hb hml hl; subst_vars; first | (simp [kndOf, c_1, c_2, c_3, c_4, c_5, c_6, c_7]; done) | (simp_all [kndOf]; done) | (try simp only [kndOf]; (repeat' split) <;> first | rfl | contradiction | (simp_all; done) | (exfalso; simp only [not_and, Int32.lt_iff_toInt_lt, Int32.le_iff_toInt_le] at *; omega)))
  by_cases c_8 : p0 = 110
  · refine xs_tin (k := 110) (off := 83) (tgt := 84) hx hb dX4_kindBy_1 c_8 (by decide) (by decide) (by decide) (by decide) (by decide) ?_
    refine lv_bipush (v := (-9)) hx hb dX4_kindBy_84 (by decide) ?_
    exact hret 86 _ (-9) dX4_kindBy_86 (by clear hret hP hK hts hown hx hb hml hl; subst_vars; first | (simp [kndOf, c_1, c_2, c_3, c_4, c_5, c_6, c_7, c_8]; done) | (simp_all [kndOf]; done) | (try simp only [kndOf]; (repeat' split) <;> first | rfl | contradiction | (simp_all; done) | (exfalso; simp only [not_and, Int32.lt_iff_toInt_lt, Int32.le_iff_toInt_le] at *; omega)))
  by_cases c_9 : p0 = 111
  · refine xs_tin (k := 111) (off := 83) (tgt := 84) hx hb dX4_kindBy_1 c_9 (by decide) (by decide) (by decide) (by decide) (by decide) ?_
    refine lv_bipush (v := (-9)) hx hb dX4_kindBy_84 (by decide) ?_
    exact hret 86 _ (-9) dX4_kindBy_86 (by clear hret hP hK hts hown hx hb hml hl; subst_vars; first | (simp [kndOf, c_1, c_2, c_3, c_4, c_5, c_6, c_7, c_8, c_9]; done) | (simp_all [kndOf]; done) | (try simp only [kndOf]; (repeat' split) <;> first | rfl | contradiction | (simp_all; done) | (exfalso; simp only [not_and, Int32.lt_iff_toInt_lt, Int32.le_iff_toInt_le] at *; omega)))
  by_cases c_10 : p0 = 112
  · refine xs_tin (k := 112) (off := 73) (tgt := 74) hx hb dX4_kindBy_1 c_10 (by decide) (by decide) (by decide) (by decide) (by decide) ?_
    refine lv_iconst (v := 1) hx hb dX4_kindBy_74 (by decide) ?_
    exact hret 75 _ 1 dX4_kindBy_75 (by clear hret hP hK hts hown hx hb hml hl; subst_vars; first | (simp [kndOf, c_1, c_2, c_3, c_4, c_5, c_6, c_7, c_8, c_9, c_10]; done) | (simp_all [kndOf]; done) | (try simp only [kndOf]; (repeat' split) <;> first | rfl | contradiction | (simp_all; done) | (exfalso; simp only [not_and, Int32.lt_iff_toInt_lt, Int32.le_iff_toInt_le] at *; omega)))
  by_cases c_11 : p0 = 113
  · refine xs_tin (k := 113) (off := 83) (tgt := 84) hx hb dX4_kindBy_1 c_11 (by decide) (by decide) (by decide) (by decide) (by decide) ?_
    refine lv_bipush (v := (-9)) hx hb dX4_kindBy_84 (by decide) ?_
    exact hret 86 _ (-9) dX4_kindBy_86 (by clear hret hP hK hts hown hx hb hml hl; subst_vars; first | (simp [kndOf, c_1, c_2, c_3, c_4, c_5, c_6, c_7, c_8, c_9, c_10, c_11]; done) | (simp_all [kndOf]; done) | (try simp only [kndOf]; (repeat' split) <;> first | rfl | contradiction | (simp_all; done) | (exfalso; simp only [not_and, Int32.lt_iff_toInt_lt, Int32.le_iff_toInt_le] at *; omega)))
  by_cases c_12 : p0 = 114
  · refine xs_tin (k := 114) (off := 83) (tgt := 84) hx hb dX4_kindBy_1 c_12 (by decide) (by decide) (by decide) (by decide) (by decide) ?_
    refine lv_bipush (v := (-9)) hx hb dX4_kindBy_84 (by decide) ?_
    exact hret 86 _ (-9) dX4_kindBy_86 (by clear hret hP hK hts hown hx hb hml hl; subst_vars; first | (simp [kndOf, c_1, c_2, c_3, c_4, c_5, c_6, c_7, c_8, c_9, c_10, c_11, c_12]; done) | (simp_all [kndOf]; done) | (try simp only [kndOf]; (repeat' split) <;> first | rfl | contradiction | (simp_all; done) | (exfalso; simp only [not_and, Int32.lt_iff_toInt_lt, Int32.le_iff_toInt_le] at *; omega)))
  by_cases c_13 : p0 = 115
  · refine xs_tin (k := 115) (off := 83) (tgt := 84) hx hb dX4_kindBy_1 c_13 (by decide) (by decide) (by decide) (by decide) (by decide) ?_
    refine lv_bipush (v := (-9)) hx hb dX4_kindBy_84 (by decide) ?_
    exact hret 86 _ (-9) dX4_kindBy_86 (by clear hret hP hK hts hown hx hb hml hl; subst_vars; first | (simp [kndOf, c_1, c_2, c_3, c_4, c_5, c_6, c_7, c_8, c_9, c_10, c_11, c_12, c_13]; done) | (simp_all [kndOf]; done) | (try simp only [kndOf]; (repeat' split) <;> first | rfl | contradiction | (simp_all; done) | (exfalso; simp only [not_and, Int32.lt_iff_toInt_lt, Int32.le_iff_toInt_le] at *; omega)))
  by_cases c_14 : p0 = 116
  · refine xs_tin (k := 116) (off := 79) (tgt := 80) hx hb dX4_kindBy_1 c_14 (by decide) (by decide) (by decide) (by decide) (by decide) ?_
    refine lv_iconst (v := 4) hx hb dX4_kindBy_80 (by decide) ?_
    exact hret 81 _ 4 dX4_kindBy_81 (by clear hret hP hK hts hown hx hb hml hl; subst_vars; first | (simp [kndOf, c_1, c_2, c_3, c_4, c_5, c_6, c_7, c_8, c_9, c_10, c_11, c_12, c_13, c_14]; done) | (simp_all [kndOf]; done) | (try simp only [kndOf]; (repeat' split) <;> first | rfl | contradiction | (simp_all; done) | (exfalso; simp only [not_and, Int32.lt_iff_toInt_lt, Int32.le_iff_toInt_le] at *; omega)))
  refine xs_tout (tgt := 84) (ks := [103, 104, 105, 106, 107, 108, 109, 110, 111, 112, 113, 114, 115, 116]) hx hb dX4_kindBy_1 (List.forall_mem_cons.mpr ⟨c_1, List.forall_mem_cons.mpr ⟨c_2, List.forall_mem_cons.mpr ⟨c_3, List.forall_mem_cons.mpr ⟨c_4, List.forall_mem_cons.mpr ⟨c_5, List.forall_mem_cons.mpr ⟨c_6, List.forall_mem_cons.mpr ⟨c_7, List.forall_mem_cons.mpr ⟨c_8, List.forall_mem_cons.mpr ⟨c_9, List.forall_mem_cons.mpr ⟨c_10, List.forall_mem_cons.mpr ⟨c_11, List.forall_mem_cons.mpr ⟨c_12, List.forall_mem_cons.mpr ⟨c_13, List.forall_mem_cons.mpr ⟨c_14, fun _ h => absurd h List.not_mem_nil⟩⟩⟩⟩⟩⟩⟩⟩⟩⟩⟩⟩⟩⟩) (by decide) (by decide) ?_
  refine lv_bipush (v := (-9)) hx hb dX4_kindBy_84 (by decide) ?_
  exact hret 86 _ (-9) dX4_kindBy_86 (by clear hret hP hK hts hown hx hb hml hl; subst_vars; first | (simp [kndOf, c_1, c_2, c_3, c_4, c_5, c_6, c_7, c_8, c_9, c_10, c_11, c_12, c_13, c_14]; done) | (simp_all [kndOf]; done) | (try simp only [kndOf]; (repeat' split) <;> first | rfl | contradiction | (simp_all; done) | (exfalso; simp only [not_and, Int32.lt_iff_toInt_lt, Int32.le_iff_toInt_le] at *; omega)))


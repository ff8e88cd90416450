theorem hs_X4_count : yX4_count.cls ≠ "java/lang/invoke/MethodHandle" ∧ yX4_count.cls ≠ "java/lang/invoke/VarHandle" ∧ (parseMethodDescriptor yX4_count.desc).map (fun d => d.parameters.length) = some 1 := by decide +kernel
theorem hv_X4_count : yX4_count.cls = RX4 ∧ yX4_count.cls ≠ "java/lang/invoke/MethodHandle" ∧ yX4_count.cls ≠ "java/lang/invoke/VarHandle" ∧ (parseMethodDescriptor yX4_count.desc).map (fun d => d.parameters.length) = some 1 := ⟨rfl, hs_X4_count⟩
theorem hs_X4_takesOn : yX4_takesOn.cls ≠ "java/lang/invoke/MethodHandle" ∧ yX4_takesOn.cls ≠ "java/lang/invoke/VarHandle" ∧ (parseMethodDescriptor yX4_takesOn.desc).map (fun d => d.parameters.length) = some 1 := by decide +kernel
theorem hv_X4_takesOn : yX4_takesOn.cls = RX4 ∧ yX4_takesOn.cls ≠ "java/lang/invoke/MethodHandle" ∧ yX4_takesOn.cls ≠ "java/lang/invoke/VarHandle" ∧ (parseMethodDescriptor yX4_takesOn.desc).map (fun d => d.parameters.length) = some 1 := ⟨rfl, hs_X4_takesOn⟩
theorem hs_X4_nestThen : yX4_nestThen.cls ≠ "java/lang/invoke/MethodHandle" ∧ yX4_nestThen.cls ≠ "java/lang/invoke/VarHandle" ∧ (parseMethodDescriptor yX4_nestThen.desc).map (fun d => d.parameters.length) = some 3 := by decide +kernel
theorem hv_X4_nestThen : yX4_nestThen.cls = RX4 ∧ yX4_nestThen.cls ≠ "java/lang/invoke/MethodHandle" ∧ yX4_nestThen.cls ≠ "java/lang/invoke/VarHandle" ∧ (parseMethodDescriptor yX4_nestThen.desc).map (fun d => d.parameters.length) = some 3 := ⟨rfl, hs_X4_nestThen⟩
theorem hs_X4_robbedThen : yX4_robbedThen.cls ≠ "java/lang/invoke/MethodHandle" ∧ yX4_robbedThen.cls ≠ "java/lang/invoke/VarHandle" ∧ (parseMethodDescriptor yX4_robbedThen.desc).map (fun d => d.parameters.length) = some 1 := by decide +kernel
theorem hv_X4_robbedThen : yX4_robbedThen.cls = RX4 ∧ yX4_robbedThen.cls ≠ "java/lang/invoke/MethodHandle" ∧ yX4_robbedThen.cls ≠ "java/lang/invoke/VarHandle" ∧ (parseMethodDescriptor yX4_robbedThen.desc).map (fun d => d.parameters.length) = some 1 := ⟨rfl, hs_X4_robbedThen⟩
theorem hs_X4_whenFalls : yX4_whenFalls.cls ≠ "java/lang/invoke/MethodHandle" ∧ yX4_whenFalls.cls ≠ "java/lang/invoke/VarHandle" ∧ (parseMethodDescriptor yX4_whenFalls.desc).map (fun d => d.parameters.length) = some 1 := by decide +kernel
theorem hv_X4_whenFalls : yX4_whenFalls.cls = RX4 ∧ yX4_whenFalls.cls ≠ "java/lang/invoke/MethodHandle" ∧ yX4_whenFalls.cls ≠ "java/lang/invoke/VarHandle" ∧ (parseMethodDescriptor yX4_whenFalls.desc).map (fun d => d.parameters.length) = some 1 := ⟨rfl, hs_X4_whenFalls⟩
theorem hs_X4_falls : yX4_falls.cls ≠ "java/lang/invoke/MethodHandle" ∧ yX4_falls.cls ≠ "java/lang/invoke/VarHandle" ∧ (parseMethodDescriptor yX4_falls.desc).map (fun d => d.parameters.length) = some 1 := by decide +kernel
theorem hv_X4_falls : yX4_falls.cls = RX4 ∧ yX4_falls.cls ≠ "java/lang/invoke/MethodHandle" ∧ yX4_falls.cls ≠ "java/lang/invoke/VarHandle" ∧ (parseMethodDescriptor yX4_falls.desc).map (fun d => d.parameters.length) = some 1 := ⟨rfl, hs_X4_falls⟩
theorem hs_X4_still : yX4_still.cls ≠ "java/lang/invoke/MethodHandle" ∧ yX4_still.cls ≠ "java/lang/invoke/VarHandle" ∧ (parseMethodDescriptor yX4_still.desc).map (fun d => d.parameters.length) = some 0 := by decide +kernel
theorem hv_X4_still : yX4_still.cls = RX4 ∧ yX4_still.cls ≠ "java/lang/invoke/MethodHandle" ∧ yX4_still.cls ≠ "java/lang/invoke/VarHandle" ∧ (parseMethodDescriptor yX4_still.desc).map (fun d => d.parameters.length) = some 0 := ⟨rfl, hs_X4_still⟩
theorem hs_X4_first : yX4_first.cls ≠ "java/lang/invoke/MethodHandle" ∧ yX4_first.cls ≠ "java/lang/invoke/VarHandle" ∧ (parseMethodDescriptor yX4_first.desc).map (fun d => d.parameters.length) = some 1 := by decide +kernel
theorem hv_X4_first : yX4_first.cls = RX4 ∧ yX4_first.cls ≠ "java/lang/invoke/MethodHandle" ∧ yX4_first.cls ≠ "java/lang/invoke/VarHandle" ∧ (parseMethodDescriptor yX4_first.desc).map (fun d => d.parameters.length) = some 1 := ⟨rfl, hs_X4_first⟩
set_option maxHeartbeats 4000000 in
set_option maxRecDepth 100000 in
theorem kX4_count (l : Launch) (D : va_G) (cI : ClassId) (sz : Nat) (a0 a1 a2 a3 a4 a5 a6 a7 a8 : Nat) (gg : GG) (mm : MS) (hG : Good gg) (p0 : Int32) : Met l yX4_count wsX4_count ({ frames := 5, cells := 0, slots := 0, locals := 109 }) (PRW D cI [.ref a0, .int p0] [(a0, .inr (3, [.ref a1, .ref a2, .ref a3, .ref a4, .int gg.hs, .ref a5, .ref a6, .ref a7, .int (nI gg.L), .int (nI gg.M), .int mm.pl, .ref a8, .int mm.sd])), (a1, .inl (cI, 49, .inl gg.r)), (a2, .inl (cI, 49, .inl mm.m)), (a3, .inl (cI, 49, .inl gg.im)), (a4, .inl (cI, 49, .inl mm.ws)), (a5, .inl (cI, 96, .inl gg.lt)), (a6, .inl (cI, 16, .inl gg.rw)), (a7, .inl (cI, 7, .inl gg.rf)), (a8, .inl (cI, 3, .inl mm.nb))] sz) (va_Qi (S := GG × MS) (fun v u => (v, u.1) = sp_count gg p0) (BRW D [(a0, .inr (3, [.ref a1, .ref a2, .ref a3, .ref a4, .int gg.hs, .ref a5, .ref a6, .ref a7, .int (nI gg.L), .int (nI gg.M), .int mm.pl, .ref a8, .int mm.sd])), (a1, .inl (cI, 49, .inl gg.r)), (a2, .inl (cI, 49, .inl mm.m)), (a3, .inl (cI, 49, .inl gg.im)), (a4, .inl (cI, 49, .inl mm.ws)), (a5, .inl (cI, 96, .inl gg.lt)), (a6, .inl (cI, 16, .inl gg.rw)), (a7, .inl (cI, 7, .inl gg.rf)), (a8, .inl (cI, 3, .inl mm.nb))] sz (fun u => [(a0, .inr (3, [.ref a1, .ref a2, .ref a3, .ref a4, .int u.1.hs, .ref a5, .ref a6, .ref a7, .int (nI u.1.L), .int (nI u.1.M), .int u.2.pl, .ref a8, .int u.2.sd])), (a1, .inl (cI, 49, .inl u.1.r)), (a2, .inl (cI, 49, .inl u.2.m)), (a3, .inl (cI, 49, .inl u.1.im)), (a4, .inl (cI, 49, .inl u.2.ws)), (a5, .inl (cI, 96, .inl u.1.lt)), (a6, .inl (cI, 16, .inl u.1.rw)), (a7, .inl (cI, 7, .inl u.1.rf)), (a8, .inl (cI, 3, .inl u.2.nb))])) (va_A [(a0, .inr (3, [.ref a1, .ref a2, .ref a3, .ref a4, .int gg.hs, .ref a5, .ref a6, .ref a7, .int (nI gg.L), .int (nI gg.M), .int mm.pl, .ref a8, .int mm.sd])), (a1, .inl (cI, 49, .inl gg.r)), (a2, .inl (cI, 49, .inl mm.m)), (a3, .inl (cI, 49, .inl gg.im)), (a4, .inl (cI, 49, .inl mm.ws)), (a5, .inl (cI, 96, .inl gg.lt)), (a6, .inl (cI, 16, .inl gg.rw)), (a7, .inl (cI, 7, .inl gg.rf)), (a8, .inl (cI, 3, .inl mm.nb))] sz)) 0 0 (va_A [(a0, .inr (3, [.ref a1, .ref a2, .ref a3, .ref a4, .int gg.hs, .ref a5, .ref a6, .ref a7, .int (nI gg.L), .int (nI gg.M), .int mm.pl, .ref a8, .int mm.sd])), (a1, .inl (cI, 49, .inl gg.r)), (a2, .inl (cI, 49, .inl mm.m)), (a3, .inl (cI, 49, .inl gg.im)), (a4, .inl (cI, 49, .inl mm.ws)), (a5, .inl (cI, 96, .inl gg.lt)), (a6, .inl (cI, 16, .inl gg.rw)), (a7, .inl (cI, 7, .inl gg.rf)), (a8, .inl (cI, 3, .inl mm.nb))] sz) := by
  refine st_rwi (cc := cX4_count) (maxL := 4) (rt := .int) (by decide) rfl (Nat.le_of_ble_eq_true rfl) (fun _ _ _ => rfl) ?_
  intro p e s m below meth c Q ls A hx hb hml hts hown hP hK hD hA hS hl hret
  replace hown : s.vm.findClass RX4 = some m.cls := hown
  replace hl : lv_has ls 4 [(0, .ref a0), (1, .int p0)] := hl
  obtain ⟨H, hH⟩ : ∃ z, z = s.heap := ⟨_, rfl⟩
  obtain ⟨locs, hlo⟩ : ∃ z : List Loc, z = [] := ⟨_, rfl⟩
  replace hP : va_P D vwCl [(a0, .inr (3, [.ref a1, .ref a2, .ref a3, .ref a4, .int gg.hs, .ref a5, .ref a6, .ref a7, .int (nI gg.L), .int (nI gg.M), .int mm.pl, .ref a8, .int mm.sd])), (a1, .inl (cI, 49, .inl gg.r)), (a2, .inl (cI, 49, .inl mm.m)), (a3, .inl (cI, 49, .inl gg.im)), (a4, .inl (cI, 49, .inl mm.ws)), (a5, .inl (cI, 96, .inl gg.lt)), (a6, .inl (cI, 16, .inl gg.rw)), (a7, .inl (cI, 7, .inl gg.rf)), (a8, .inl (cI, 3, .inl mm.nb))] H := by rw [hH]; exact hP
  replace hS : va_S A s.heap H locs := by rw [hH, hlo]; exact hS
  show W p l e ({ frames := 5, cells := 0, slots := 0, locals := 109 }) s m [.ref a0, .int p0].toArray below meth c s.heap [] 0 0 Q (F0 m 0 ls [])
  rw [← hlo]
  suffices hgo : W p l e ({ frames := 5, cells := 0, slots := 0, locals := 109 }) s m [.ref a0, .int p0].toArray below meth c H locs 0 0 Q (F0 m 0 ls []) by rw [hH] at hgo; exact hgo
  clear hH hlo
  have hi_X4 : ∀ w ∈ wsX40, w ∈ wsX4_count := fun w h => List.mem_cons_of_mem _ (List.mem_append_right _ (h))
  have hk_9 := hts (.fieldLink RX4 9 "NestsOfTalkModel" "s" "[I") (List.mem_of_getElem? (i := 2) rfl)
  have hk_186 := hts (.fieldLink RX4 186 "NestsOfTalkModel" "rowMany" "I") (List.mem_of_getElem? (i := 3) rfl)
  have hk_99 := hts (.fieldLink RX4 99 "NestsOfTalkModel" "letterMany" "I") (List.mem_of_getElem? (i := 4) rfl)
  have hk_28 := hts (.fieldLink RX4 28 "NestsOfTalkModel" "refused" "[I") (List.mem_of_getElem? (i := 1) rfl)
  have hI := hG.inv
  have hn9 := hI.le
  have hL96 := hG.L96
  have hM16 := hG.M16
  refine lv_iload_n hx hb dX4_count_0 rfl (lv_at hl 1 rfl) ?_
  refine lv_bipush (v := 11) hx hb dX4_count_1 (by decide) ?_
  refine lv_bipush (v := 16) hx hb dX4_count_3 (by decide) ?_
  refine xc_Si (As := [.int p0, .int 11, .int 16]) (rest := []) ⟨hx, hb, hml, hown, hts⟩ (kX4_isIn l D cI p0 11 16) (va_cwS 3 hts gX4_count_X4_isIn rfl rfl rfl hs_X4_isIn ⟨Nat.le_of_ble_eq_true rfl, Nat.le_of_ble_eq_true rfl⟩) hK hP [] rfl rfl hl.1 rfl (Nat.le_of_ble_eq_true rfl) dX4_count_5 ⟨Nat.zero_le _, Nat.zero_le _⟩ (fun r_1 hr_1 => ?_)
  refine lv_if_eq (tgt := 21) hx hb dX4_count_8 (by decide) (fun c_2 => ?_) (fun c_2 => ?_)
  · skip
    have hb_2 : isI p0 11 16 = false := bool_f (hr_1.trans isI_ite) c_2
    refine lv_iconst (v := 0) hx hb dX4_count_21 (by decide) ?_
    refine lv_istore_n (lv' := [(2, .int 0), (0, .ref a0), (1, .int p0)]) hx hb dX4_count_22 rfl hl (by decide) rfl (fun ls hl => ?_)
    refine lv_iload_n hx hb dX4_count_23 rfl (lv_at hl 2 rfl) ?_
    by_cases c_3 : p0 = 0
    · refine xs_tin (k := 0) (off := 48) (tgt := 72) hx hb dX4_count_24 c_3 (by decide) (by decide) (by decide) (by decide) (by decide) ?_
      refine lv_aload_n hx hb dX4_count_72 rfl (lv_at hl 1 rfl) ?_
      refine va_get (D := D) (ci := 3) (v := .ref a1) (C := RX4) (T := TX4) (N := 13) hx hb hts hi_X4 hown hK.1 hP 0 rfl rfl 0 (by decide) hk_9 (fun _ h9 => h9) rfl dX4_count_73 ?_
      refine lv_iload_n hx hb dX4_count_76 rfl (lv_at hl 2 rfl) ?_
      refine xa_ld hx hb hK hP 1 rfl (j := 0) (show p0 = nI 0 from c_3) (by omega) (by decide) dX4_count_77 ?_
      exact hret 78 _ (gg.r 0) (gg, mm) _ _ dX4_count_78 (by first | (simp [sp_count, rfz, us, c_2, c_3, hb_2]; done) | (simp [sp_count, rfz, us, c_2, c_3, hb_2, isI]; done) | (simp [sp_count, rfz, us, c_2, c_3, hb_2, wrB, lackF]; done)) hP hD hS
    by_cases c_4 : p0 = 1
    · refine xs_tin (k := 1) (off := 48) (tgt := 72) hx hb dX4_count_24 c_4 (by decide) (by decide) (by decide) (by decide) (by decide) ?_
      refine lv_aload_n hx hb dX4_count_72 rfl (lv_at hl 1 rfl) ?_
      refine va_get (D := D) (ci := 3) (v := .ref a1) (C := RX4) (T := TX4) (N := 13) hx hb hts hi_X4 hown hK.1 hP 0 rfl rfl 0 (by decide) hk_9 (fun _ h9 => h9) rfl dX4_count_73 ?_
      refine lv_iload_n hx hb dX4_count_76 rfl (lv_at hl 2 rfl) ?_
      refine xa_ld hx hb hK hP 1 rfl (j := 1) (show p0 = nI 1 from c_4) (by omega) (by decide) dX4_count_77 ?_
      exact hret 78 _ (gg.r 1) (gg, mm) _ _ dX4_count_78 (by first | (simp [sp_count, rfz, us, c_2, c_3, c_4, hb_2]; done) | (simp [sp_count, rfz, us, c_2, c_3, c_4, hb_2, isI]; done) | (simp [sp_count, rfz, us, c_2, c_3, c_4, hb_2, wrB, lackF]; done)) hP hD hS
    by_cases c_5 : p0 = 2
    · refine xs_tin (k := 2) (off := 48) (tgt := 72) hx hb dX4_count_24 c_5 (by decide) (by decide) (by decide) (by decide) (by decide) ?_
      refine lv_aload_n hx hb dX4_count_72 rfl (lv_at hl 1 rfl) ?_
      refine va_get (D := D) (ci := 3) (v := .ref a1) (C := RX4) (T := TX4) (N := 13) hx hb hts hi_X4 hown hK.1 hP 0 rfl rfl 0 (by decide) hk_9 (fun _ h9 => h9) rfl dX4_count_73 ?_
      refine lv_iload_n hx hb dX4_count_76 rfl (lv_at hl 2 rfl) ?_
      refine xa_ld hx hb hK hP 1 rfl (j := 2) (show p0 = nI 2 from c_5) (by omega) (by decide) dX4_count_77 ?_
      exact hret 78 _ (gg.r 2) (gg, mm) _ _ dX4_count_78 (by first | (simp [sp_count, rfz, us, c_2, c_3, c_4, c_5, hb_2]; done) | (simp [sp_count, rfz, us, c_2, c_3, c_4, c_5, hb_2, isI]; done) | (simp [sp_count, rfz, us, c_2, c_3, c_4, c_5, hb_2, wrB, lackF]; done)) hP hD hS
    by_cases c_6 : p0 = 3
    · refine xs_tin (k := 3) (off := 55) (tgt := 79) hx hb dX4_count_24 c_6 (by decide) (by decide) (by decide) (by decide) (by decide) ?_
      refine lv_aload_n hx hb dX4_count_79 rfl (lv_at hl 1 rfl) ?_
      refine va_get (D := D) (ci := 3) (v := .ref a1) (C := RX4) (T := TX4) (N := 13) hx hb hts hi_X4 hown hK.1 hP 0 rfl rfl 0 (by decide) hk_9 (fun _ h9 => h9) rfl dX4_count_80 ?_
      refine xc_Si (As := [.ref a1]) (rest := []) ⟨hx, hb, hml, hown, hts⟩ (kX4_inNests l D cI a1 gg.r gg.n hI) (va_cwS 1 hts gX4_count_X4_inNests rfl rfl rfl hs_X4_inNests ⟨Nat.le_of_ble_eq_true rfl, Nat.le_of_ble_eq_true rfl⟩) hK hP [1] rfl rfl hl.1 rfl (Nat.le_of_ble_eq_true rfl) dX4_count_83 ⟨Nat.zero_le _, Nat.zero_le _⟩ (fun r_7 hr_7 => ?_)
      exact hret 86 _ r_7 (gg, mm) _ _ dX4_count_86 (by first | (simp [sp_count, rfz, us, c_2, c_3, c_4, c_5, c_6, hb_2, hr_7]; done) | (simp [sp_count, rfz, us, c_2, c_3, c_4, c_5, c_6, hb_2, hr_7, isI]; done) | (simp [sp_count, rfz, us, c_2, c_3, c_4, c_5, c_6, hb_2, hr_7, wrB, lackF]; done)) hP hD hS
    by_cases c_8 : p0 = 4
    · refine xs_tin (k := 4) (off := 63) (tgt := 87) hx hb dX4_count_24 c_8 (by decide) (by decide) (by decide) (by decide) (by decide) ?_
      refine lv_aload_n hx hb dX4_count_87 rfl (lv_at hl 1 rfl) ?_
      refine va_get (D := D) (ci := 3) (v := .ref a1) (C := RX4) (T := TX4) (N := 13) hx hb hts hi_X4 hown hK.1 hP 0 rfl rfl 0 (by decide) hk_9 (fun _ h9 => h9) rfl dX4_count_88 ?_
      refine xc_Si (As := [.ref a1]) (rest := []) ⟨hx, hb, hml, hown, hts⟩ (kX4_softAll l D cI a1 gg.r gg.n hI) (va_cwS 1 hts gX4_count_X4_softAll rfl rfl rfl hs_X4_softAll ⟨Nat.le_of_ble_eq_true rfl, Nat.le_of_ble_eq_true rfl⟩) hK hP [1] rfl rfl hl.1 rfl (Nat.le_of_ble_eq_true rfl) dX4_count_91 ⟨Nat.zero_le _, Nat.zero_le _⟩ (fun r_9 hr_9 => ?_)
      exact hret 94 _ r_9 (gg, mm) _ _ dX4_count_94 (by first | (simp [sp_count, rfz, us, c_2, c_3, c_4, c_5, c_6, c_8, hb_2, hr_9]; done) | (simp [sp_count, rfz, us, c_2, c_3, c_4, c_5, c_6, c_8, hb_2, hr_9, isI]; done) | (simp [sp_count, rfz, us, c_2, c_3, c_4, c_5, c_6, c_8, hb_2, hr_9, wrB, lackF]; done)) hP hD hS
    by_cases c_10 : p0 = 5
    · refine xs_tin (k := 5) (off := 71) (tgt := 95) hx hb dX4_count_24 c_10 (by decide) (by decide) (by decide) (by decide) (by decide) ?_
      refine lv_iconst (v := 0) hx hb dX4_count_95 (by decide) ?_
      refine lv_istore_n (lv' := [(3, .int 0), (2, .int 0), (0, .ref a0), (1, .int p0)]) hx hb dX4_count_96 rfl hl (by decide) rfl (fun ls hl => ?_)
      have lp_97_11 : ∀ (fu : Nat) (i : Nat) (x3 : Int32) (x2 : Int32) (ls : Array Slot) (H : Heap) (locs : List Loc), gg.n - i < fu → (x3 = nI i) → (i ≤ gg.n) → (x2 = wrnN gg.r i) → va_P D vwCl [(a0, .inr (3, [.ref a1, .ref a2, .ref a3, .ref a4, .int gg.hs, .ref a5, .ref a6, .ref a7, .int (nI gg.L), .int (nI gg.M), .int mm.pl, .ref a8, .int mm.sd])), (a1, .inl (cI, 49, .inl gg.r)), (a2, .inl (cI, 49, .inl mm.m)), (a3, .inl (cI, 49, .inl gg.im)), (a4, .inl (cI, 49, .inl mm.ws)), (a5, .inl (cI, 96, .inl gg.lt)), (a6, .inl (cI, 16, .inl gg.rw)), (a7, .inl (cI, 7, .inl gg.rf)), (a8, .inl (cI, 3, .inl mm.nb))] H → va_D A [(a0, .inr (3, [.ref a1, .ref a2, .ref a3, .ref a4, .int gg.hs, .ref a5, .ref a6, .ref a7, .int (nI gg.L), .int (nI gg.M), .int mm.pl, .ref a8, .int mm.sd])), (a1, .inl (cI, 49, .inl gg.r)), (a2, .inl (cI, 49, .inl mm.m)), (a3, .inl (cI, 49, .inl gg.im)), (a4, .inl (cI, 49, .inl mm.ws)), (a5, .inl (cI, 96, .inl gg.lt)), (a6, .inl (cI, 16, .inl gg.rw)), (a7, .inl (cI, 7, .inl gg.rf)), (a8, .inl (cI, 3, .inl mm.nb))] → va_S A s.heap H locs → lv_has ls 4 [(3, .int x3), (2, .int x2), (0, .ref a0), (1, .int p0)] → W p l e ({ frames := 5, cells := 0, slots := 0, locals := 109 }) s m [.ref a0, .int p0].toArray below meth c H locs 0 0 Q (F0 m 97 ls []) := by
        intro fu
        induction fu with
        | zero =>
          intro i x3 x2 ls H locs hfu
          exact absurd hfu (Nat.not_lt_zero _)
        | succ fu ih_11 =>
          intro i x3 x2 ls H locs hfu hx3 hi hx2 hP hD hS hl
          refine lv_iload_n hx hb dX4_count_97 rfl (lv_at hl 0 rfl) ?_
          refine lv_aload_n hx hb dX4_count_98 rfl (lv_at hl 2 rfl) ?_
          refine va_get (D := D) (ci := 3) (v := .ref a1) (C := RX4) (T := TX4) (N := 13) hx hb hts hi_X4 hown hK.1 hP 0 rfl rfl 0 (by decide) hk_9 (fun _ h9 => h9) rfl dX4_count_99 ?_
          refine lv_iconst (v := 0) hx hb dX4_count_102 (by decide) ?_
          refine xa_ld hx hb hK hP 1 rfl (j := 0) (rfl : (0 : Int32) = nI 0) (by omega) (by decide) dX4_count_103 ?_
          refine lv_icmp_ge (tgt := 126) hx hb dX4_count_104 (by decide) (fun c_12 => ?_) (fun c_12 => ?_)
          · skip
            have n_12 : gg.n ≤ i := (ni_le (a := gg.n) (b := i) hI.n0 hx3 (by omega) (by omega)).mp c_12
            have d_12 : ¬ x3 < (gg.r 0) := Int32.not_lt.2 c_12
            have m_12 : ¬ i < gg.n := by omega
            refine lv_iload_n hx hb dX4_count_126 rfl (lv_at hl 1 rfl) ?_
            exact hret 127 _ x2 (gg, mm) _ _ dX4_count_127 (by have e9 : i = gg.n := (by omega); rw [e9] at hx2; simp [sp_count, isI, hx2, c_2, c_3, c_4, c_5, c_6, c_8, c_10, c_12, hb_2]) hP hD hS
          have n_12 : ¬ gg.n ≤ i := fun q => c_12 ((ni_le (a := gg.n) (b := i) hI.n0 hx3 (by omega) (by omega)).mpr q)
          have d_12 : x3 < (gg.r 0) := Int32.not_le.1 c_12
          have m_12 : i < gg.n := by omega
          refine lv_iload_n hx hb dX4_count_107 rfl (lv_at hl 1 rfl) ?_
          refine lv_aload_n hx hb dX4_count_108 rfl (lv_at hl 2 rfl) ?_
          refine va_get (D := D) (ci := 3) (v := .ref a1) (C := RX4) (T := TX4) (N := 13) hx hb hts hi_X4 hown hK.1 hP 0 rfl rfl 0 (by decide) hk_9 (fun _ h9 => h9) rfl dX4_count_109 ?_
          refine lv_iload_n hx hb dX4_count_112 rfl (lv_at hl 0 rfl) ?_
          refine lv_iconst (v := 3) hx hb dX4_count_113 (by decide) ?_
          refine xc_Si (As := [.int x3, .int 3]) (rest := [.ref a1, .int x2]) ⟨hx, hb, hml, hown, hts⟩ (kX4_of l D cI x3 3 i 3 hx3 (rfl : (3 : Int32) = nI 3)) (va_cwS 2 hts gX4_count_X4_of rfl rfl rfl hs_X4_of ⟨Nat.le_of_ble_eq_true rfl, Nat.le_of_ble_eq_true rfl⟩) hK hP [] rfl rfl hl.1 rfl (Nat.le_of_ble_eq_true rfl) dX4_count_114 ⟨Nat.zero_le _, Nat.zero_le _⟩ (fun r_13 hr_13 => ?_)
          refine xa_ld hx hb hK hP 1 rfl (j := (oF i 3)) hr_13 (oF_lt (by omega) (by omega)) (by decide) dX4_count_117 ?_
          refine lv_iadd hx hb dX4_count_118 ?_
          refine lv_topi (fun x_14 ex_14 => ?_)
          refine lv_istore_n (lv' := [(2, .int x_14), (3, .int x3), (0, .ref a0), (1, .int p0)]) hx hb dX4_count_119 rfl hl (by decide) rfl (fun ls hl => ?_)
          obtain ⟨x_15, ex_15⟩ : ∃ z : Int32, z = x3 + 1 := ⟨_, rfl⟩
          refine lv_iinc (v := x_15) (lv' := [(3, .int x_15), (2, .int x_14), (0, .ref a0), (1, .int p0)]) hx hb dX4_count_120 hl (k := 1) rfl (by rw [ex_15]; rfl) (by decide) rfl (fun ls hl => ?_)
          refine lv_goto (tgt := 97) hx hb dX4_count_123 (by decide) ?_
          exact ih_11 (i + 1) x_15 x_14 _ _ _ (by omega) (ni_add (a := i) (b := 1) ex_15 hx3 (rfl : (1 : Int32) = nI 1)) (by omega) (by rw [wrnN, ← hx2]; exact ex_14) hP hD hS (lv_sub hl [0, 1, 2, 3] rfl)
      exact lp_97_11 ((gg.n - 0) + 1) 0 0 0 _ _ _ (by omega) (rfl : (0 : Int32) = nI 0) (by omega) rfl hP hD hS (lv_sub hl [0, 1, 2, 3] rfl)
    by_cases c_16 : p0 = 6
    · refine xs_tin (k := 6) (off := 104) (tgt := 128) hx hb dX4_count_24 c_16 (by decide) (by decide) (by decide) (by decide) (by decide) ?_
      refine lv_aload_n hx hb dX4_count_128 rfl (lv_at hl 1 rfl) ?_
      refine va_get (D := D) (ci := 3) (v := .int (nI gg.M)) (C := RX4) (T := TX4) (N := 13) hx hb hts hi_X4 hown hK.1 hP 0 rfl rfl 9 (by decide) hk_186 (fun _ h9 => h9) rfl dX4_count_129 ?_
      exact hret 132 _ (nI gg.M) (gg, mm) _ _ dX4_count_132 (by first | (simp [sp_count, rfz, us, c_2, c_3, c_4, c_5, c_6, c_8, c_10, c_16, hb_2]; done) | (simp [sp_count, rfz, us, c_2, c_3, c_4, c_5, c_6, c_8, c_10, c_16, hb_2, isI]; done) | (simp [sp_count, rfz, us, c_2, c_3, c_4, c_5, c_6, c_8, c_10, c_16, hb_2, wrB, lackF]; done)) hP hD hS
    by_cases c_17 : p0 = 7
    · refine xs_tin (k := 7) (off := 109) (tgt := 133) hx hb dX4_count_24 c_17 (by decide) (by decide) (by decide) (by decide) (by decide) ?_
      refine lv_aload_n hx hb dX4_count_133 rfl (lv_at hl 1 rfl) ?_
      refine va_get (D := D) (ci := 3) (v := .int (nI gg.L)) (C := RX4) (T := TX4) (N := 13) hx hb hts hi_X4 hown hK.1 hP 0 rfl rfl 8 (by decide) hk_99 (fun _ h9 => h9) rfl dX4_count_134 ?_
      exact hret 137 _ (nI gg.L) (gg, mm) _ _ dX4_count_137 (by first | (simp [sp_count, rfz, us, c_2, c_3, c_4, c_5, c_6, c_8, c_10, c_16, c_17, hb_2]; done) | (simp [sp_count, rfz, us, c_2, c_3, c_4, c_5, c_6, c_8, c_10, c_16, c_17, hb_2, isI]; done) | (simp [sp_count, rfz, us, c_2, c_3, c_4, c_5, c_6, c_8, c_10, c_16, c_17, hb_2, wrB, lackF]; done)) hP hD hS
    refine xs_tout (tgt := 138) (ks := [0, 1, 2, 3, 4, 5, 6, 7]) hx hb dX4_count_24 (List.forall_mem_cons.mpr ⟨c_3, List.forall_mem_cons.mpr ⟨c_4, List.forall_mem_cons.mpr ⟨c_5, List.forall_mem_cons.mpr ⟨c_6, List.forall_mem_cons.mpr ⟨c_8, List.forall_mem_cons.mpr ⟨c_10, List.forall_mem_cons.mpr ⟨c_16, List.forall_mem_cons.mpr ⟨c_17, fun _ h => absurd h List.not_mem_nil⟩⟩⟩⟩⟩⟩⟩⟩) (by decide) (by decide) ?_
    refine lv_bipush (v := (-9)) hx hb dX4_count_138 (by decide) ?_
    exact hret 140 _ (-9) (gg, mm) _ _ dX4_count_140 (by first | (simp [sp_count, rfz, us, c_2, c_3, c_4, c_5, c_6, c_8, c_10, c_16, c_17, hb_2]; done) | (simp [sp_count, rfz, us, c_2, c_3, c_4, c_5, c_6, c_8, c_10, c_16, c_17, hb_2, isI]; done) | (simp [sp_count, rfz, us, c_2, c_3, c_4, c_5, c_6, c_8, c_10, c_16, c_17, hb_2, wrB, lackF]; done)) hP hD hS
  have hb_2 : isI p0 11 16 = true := bool_t (hr_1.trans isI_ite) c_2
  obtain ⟨i_2, il_2, iu_2, ei_2⟩ := isI_nat (a := 11) (b := 16) (rfl : (11 : Int32) = nI 11) (rfl : (16 : Int32) = nI 16) (by decide) (by omega) hb_2
  have tn_2 : tN p0 = i_2 := by rw [ei_2]; exact tN_nI (by omega)
  refine lv_aload_n hx hb dX4_count_11 rfl (lv_at hl 0 rfl) ?_
  refine va_get (D := D) (ci := 3) (v := .ref a7) (C := RX4) (T := TX4) (N := 13) hx hb hts hi_X4 hown hK.1 hP 0 rfl rfl 7 (by decide) hk_28 (fun _ h9 => h9) rfl dX4_count_12 ?_
  refine lv_iload_n hx hb dX4_count_15 rfl (lv_at hl 1 rfl) ?_
  refine lv_bipush (v := 10) hx hb dX4_count_16 (by decide) ?_
  refine lv_isub hx hb dX4_count_18 ?_
  refine xa_ld hx hb hK hP 7 rfl (j := (i_2 - 10)) (ni_sub (a := i_2) (b := 10) rfl ei_2 rfl (by omega)) (by omega) (by decide) dX4_count_19 ?_
  exact hret 20 _ (gg.rf (i_2 - 10)) (gg, mm) _ _ dX4_count_20 (by first | (simp [sp_count, rfz, us, c_2, hb_2, tn_2]; done) | (simp [sp_count, rfz, us, c_2, hb_2, tn_2, isI]; done) | (simp [sp_count, rfz, us, c_2, hb_2, tn_2, wrB, lackF]; done)) hP hD hS

set_option maxHeartbeats 4000000 in
set_option maxRecDepth 100000 in
theorem kX4_takesOn (l : Launch) (D : va_G) (cI : ClassId) (sz : Nat) (a0 a1 a2 a3 a4 a5 a6 a7 a8 : Nat) (gg : GG) (mm : MS) (hG : Good gg) (p0 : Int32) (t0 : Nat) (hp0 : p0 = nI t0) (ht0 : t0 ≤ 1000000) : Met l yX4_takesOn wsX4_takesOn ({ frames := 7, cells := 0, slots := 0, locals := 155 }) (PRW D cI [.ref a0, .int p0] [(a0, .inr (3, [.ref a1, .ref a2, .ref a3, .ref a4, .int gg.hs, .ref a5, .ref a6, .ref a7, .int (nI gg.L), .int (nI gg.M), .int mm.pl, .ref a8, .int mm.sd])), (a1, .inl (cI, 49, .inl gg.r)), (a2, .inl (cI, 49, .inl mm.m)), (a3, .inl (cI, 49, .inl gg.im)), (a4, .inl (cI, 49, .inl mm.ws)), (a5, .inl (cI, 96, .inl gg.lt)), (a6, .inl (cI, 16, .inl gg.rw)), (a7, .inl (cI, 7, .inl gg.rf)), (a8, .inl (cI, 3, .inl mm.nb))] sz) (va_Qi (S := Unit) (fun v _ => v = nI (dsV gg.r gg.n t0)) (BRW D [(a0, .inr (3, [.ref a1, .ref a2, .ref a3, .ref a4, .int gg.hs, .ref a5, .ref a6, .ref a7, .int (nI gg.L), .int (nI gg.M), .int mm.pl, .ref a8, .int mm.sd])), (a1, .inl (cI, 49, .inl gg.r)), (a2, .inl (cI, 49, .inl mm.m)), (a3, .inl (cI, 49, .inl gg.im)), (a4, .inl (cI, 49, .inl mm.ws)), (a5, .inl (cI, 96, .inl gg.lt)), (a6, .inl (cI, 16, .inl gg.rw)), (a7, .inl (cI, 7, .inl gg.rf)), (a8, .inl (cI, 3, .inl mm.nb))] sz (fun u => [(a0, .inr (3, [.ref a1, .ref a2, .ref a3, .ref a4, .int gg.hs, .ref a5, .ref a6, .ref a7, .int (nI gg.L), .int (nI gg.M), .int mm.pl, .ref a8, .int mm.sd])), (a1, .inl (cI, 49, .inl gg.r)), (a2, .inl (cI, 49, .inl (dsR gg.r gg.n t0))), (a3, .inl (cI, 49, .inl gg.im)), (a4, .inl (cI, 49, .inl mm.ws)), (a5, .inl (cI, 96, .inl gg.lt)), (a6, .inl (cI, 16, .inl gg.rw)), (a7, .inl (cI, 7, .inl gg.rf)), (a8, .inl (cI, 3, .inl mm.nb))])) (va_A [(a0, .inr (3, [.ref a1, .ref a2, .ref a3, .ref a4, .int gg.hs, .ref a5, .ref a6, .ref a7, .int (nI gg.L), .int (nI gg.M), .int mm.pl, .ref a8, .int mm.sd])), (a1, .inl (cI, 49, .inl gg.r)), (a2, .inl (cI, 49, .inl mm.m)), (a3, .inl (cI, 49, .inl gg.im)), (a4, .inl (cI, 49, .inl mm.ws)), (a5, .inl (cI, 96, .inl gg.lt)), (a6, .inl (cI, 16, .inl gg.rw)), (a7, .inl (cI, 7, .inl gg.rf)), (a8, .inl (cI, 3, .inl mm.nb))] sz)) 0 0 (va_A [(a0, .inr (3, [.ref a1, .ref a2, .ref a3, .ref a4, .int gg.hs, .ref a5, .ref a6, .ref a7, .int (nI gg.L), .int (nI gg.M), .int mm.pl, .ref a8, .int mm.sd])), (a1, .inl (cI, 49, .inl gg.r)), (a2, .inl (cI, 49, .inl mm.m)), (a3, .inl (cI, 49, .inl gg.im)), (a4, .inl (cI, 49, .inl mm.ws)), (a5, .inl (cI, 96, .inl gg.lt)), (a6, .inl (cI, 16, .inl gg.rw)), (a7, .inl (cI, 7, .inl gg.rf)), (a8, .inl (cI, 3, .inl mm.nb))] sz) := by
  refine st_rwi (cc := cX4_takesOn) (maxL := 2) (rt := .int) (by decide) rfl (Nat.le_of_ble_eq_true rfl) (fun _ _ _ => rfl) ?_
  intro p e s m below meth c Q ls A hx hb hml hts hown hP hK hD hA hS hl hret
  replace hown : s.vm.findClass RX4 = some m.cls := hown
  replace hl : lv_has ls 2 [(0, .ref a0), (1, .int p0)] := hl
  obtain ⟨H, hH⟩ : ∃ z, z = s.heap := ⟨_, rfl⟩
  obtain ⟨locs, hlo⟩ : ∃ z : List Loc, z = [] := ⟨_, rfl⟩
  replace hP : va_P D vwCl [(a0, .inr (3, [.ref a1, .ref a2, .ref a3, .ref a4, .int gg.hs, .ref a5, .ref a6, .ref a7, .int (nI gg.L), .int (nI gg.M), .int mm.pl, .ref a8, .int mm.sd])), (a1, .inl (cI, 49, .inl gg.r)), (a2, .inl (cI, 49, .inl mm.m)), (a3, .inl (cI, 49, .inl gg.im)), (a4, .inl (cI, 49, .inl mm.ws)), (a5, .inl (cI, 96, .inl gg.lt)), (a6, .inl (cI, 16, .inl gg.rw)), (a7, .inl (cI, 7, .inl gg.rf)), (a8, .inl (cI, 3, .inl mm.nb))] H := by rw [hH]; exact hP
  replace hS : va_S A s.heap H locs := by rw [hH, hlo]; exact hS
  show W p l e ({ frames := 7, cells := 0, slots := 0, locals := 155 }) s m [.ref a0, .int p0].toArray below meth c s.heap [] 0 0 Q (F0 m 0 ls [])
  rw [← hlo]
  suffices hgo : W p l e ({ frames := 7, cells := 0, slots := 0, locals := 155 }) s m [.ref a0, .int p0].toArray below meth c H locs 0 0 Q (F0 m 0 ls []) by rw [hH] at hgo; exact hgo
  clear hH hlo
  have hi_X4 : ∀ w ∈ wsX40, w ∈ wsX4_takesOn := fun w h => List.mem_cons_of_mem _ (List.mem_append_right _ (h))
  have hk_9 := hts (.fieldLink RX4 9 "NestsOfTalkModel" "s" "[I") (List.mem_of_getElem? (i := 1) rfl)
  have hk_13 := hts (.fieldLink RX4 13 "NestsOfTalkModel" "m" "[I") (List.mem_of_getElem? (i := 2) rfl)
  have hI := hG.inv
  have hn9 := hI.le
  have hL96 := hG.L96
  have hM16 := hG.M16
  refine lv_aload_n hx hb dX4_takesOn_0 rfl (lv_at hl 0 rfl) ?_
  refine va_get (D := D) (ci := 3) (v := .ref a1) (C := RX4) (T := TX4) (N := 13) hx hb hts hi_X4 hown hK.1 hP 0 rfl rfl 0 (by decide) hk_9 (fun _ h9 => h9) rfl dX4_takesOn_1 ?_
  refine lv_aload_n hx hb dX4_takesOn_4 rfl (lv_at hl 0 rfl) ?_
  refine va_get (D := D) (ci := 3) (v := .ref a2) (C := RX4) (T := TX4) (N := 13) hx hb hts hi_X4 hown hK.1 hP 0 rfl rfl 1 (by decide) hk_13 (fun _ h9 => h9) rfl dX4_takesOn_5 ?_
  refine xw_Sv (As := [.ref a1, .ref a2]) (rest := []) (Wn := fun u => [(a0, .inr (3, [.ref a1, .ref a2, .ref a3, .ref a4, .int gg.hs, .ref a5, .ref a6, .ref a7, .int (nI gg.L), .int (nI gg.M), .int mm.pl, .ref a8, .int mm.sd])), (a1, .inl (cI, 49, .inl gg.r)), (a2, .inl (cI, 49, .inl gg.r)), (a3, .inl (cI, 49, .inl gg.im)), (a4, .inl (cI, 49, .inl mm.ws)), (a5, .inl (cI, 96, .inl gg.lt)), (a6, .inl (cI, 16, .inl gg.rw)), (a7, .inl (cI, 7, .inl gg.rf)), (a8, .inl (cI, 3, .inl mm.nb))]) (Wr := [(a0, .inr (3, [.ref a1, .ref a2, .ref a3, .ref a4, .int gg.hs, .ref a5, .ref a6, .ref a7, .int (nI gg.L), .int (nI gg.M), .int mm.pl, .ref a8, .int mm.sd])), (a3, .inl (cI, 49, .inl gg.im)), (a4, .inl (cI, 49, .inl mm.ws)), (a5, .inl (cI, 96, .inl gg.lt)), (a6, .inl (cI, 16, .inl gg.rw)), (a7, .inl (cI, 7, .inl gg.rf)), (a8, .inl (cI, 3, .inl mm.nb))]) ⟨hx, hb, hml, hown, hts⟩ (kX4_copies l D cI H.size a1 a2 gg.r mm.m) (va_cwS 2 hts gX4_takesOn_X4_copies rfl rfl rfl hs_X4_copies ⟨Nat.le_of_ble_eq_true rfl, Nat.le_of_ble_eq_true rfl⟩) hK hP hD hS hA [1, 2] [0, 3, 4, 5, 6, 7, 8] [0, 7, 8, 1, 2, 3, 4, 5, 6] rfl rfl (by decide) (by decide) (by decide) (by decide) (fun u => rfl) rfl hl.1 rfl (Nat.le_of_ble_eq_true rfl) dX4_takesOn_8 ⟨Nat.zero_le _, Nat.zero_le _⟩ (fun u_1 H locs hw_1 hP hD hS => ?_)
  refine lv_aload_n hx hb dX4_takesOn_11 rfl (lv_at hl 0 rfl) ?_
  refine va_get (D := D) (ci := 3) (v := .ref a2) (C := RX4) (T := TX4) (N := 13) hx hb hts hi_X4 hown hK.1 hP 0 rfl rfl 1 (by decide) hk_13 (fun _ h9 => h9) rfl dX4_takesOn_12 ?_
  refine lv_iload_n hx hb dX4_takesOn_15 rfl (lv_at hl 1 rfl) ?_
  refine xw_Si (As := [.ref a2, .int p0]) (rest := []) (Wn := fun u => [(a0, .inr (3, [.ref a1, .ref a2, .ref a3, .ref a4, .int gg.hs, .ref a5, .ref a6, .ref a7, .int (nI gg.L), .int (nI gg.M), .int mm.pl, .ref a8, .int mm.sd])), (a1, .inl (cI, 49, .inl gg.r)), (a2, .inl (cI, 49, .inl u)), (a3, .inl (cI, 49, .inl gg.im)), (a4, .inl (cI, 49, .inl mm.ws)), (a5, .inl (cI, 96, .inl gg.lt)), (a6, .inl (cI, 16, .inl gg.rw)), (a7, .inl (cI, 7, .inl gg.rf)), (a8, .inl (cI, 3, .inl mm.nb))]) (Wr := [(a0, .inr (3, [.ref a1, .ref a2, .ref a3, .ref a4, .int gg.hs, .ref a5, .ref a6, .ref a7, .int (nI gg.L), .int (nI gg.M), .int mm.pl, .ref a8, .int mm.sd])), (a1, .inl (cI, 49, .inl gg.r)), (a3, .inl (cI, 49, .inl gg.im)), (a4, .inl (cI, 49, .inl mm.ws)), (a5, .inl (cI, 96, .inl gg.lt)), (a6, .inl (cI, 16, .inl gg.rw)), (a7, .inl (cI, 7, .inl gg.rf)), (a8, .inl (cI, 3, .inl mm.nb))]) ⟨hx, hb, hml, hown, hts⟩ (kX4_daysOn l D cI H.size a2 gg.r gg.n hI p0 t0 hp0 (by omega)) (va_cwS 2 hts gX4_takesOn_X4_daysOn rfl rfl rfl hs_X4_daysOn ⟨Nat.le_of_ble_eq_true rfl, Nat.le_of_ble_eq_true rfl⟩) hK hP hD hS hA [2] [0, 1, 3, 4, 5, 6, 7, 8] [0, 1, 8, 2, 3, 4, 5, 6, 7] rfl rfl (by decide) (by decide) (by decide) (by decide) (fun u => rfl) rfl hl.1 rfl (Nat.le_of_ble_eq_true rfl) dX4_takesOn_16 ⟨Nat.zero_le _, Nat.zero_le _⟩ (fun r_2 u_2 H locs hw_2 hP hD hS => ?_)
  obtain ⟨hr_2, hu_2⟩ := hw_2
  have hI_u_2 : Inv gg.n u_2 := (by rw [hu_2]; exact hI.idsR _)
  rw [hu_2] at hP hD
  exact hret 19 _ r_2 () _ _ dX4_takesOn_19 hr_2 hP hD hS

set_option maxHeartbeats 4000000 in
set_option maxRecDepth 100000 in
theorem kX4_nestThen (l : Launch) (D : va_G) (cI : ClassId) (sz : Nat) (a0 a1 a2 a3 a4 a5 a6 a7 a8 : Nat) (gg : GG) (mm : MS) (hG : Good gg) (p0 p1 p2 : Int32) : Met l yX4_nestThen wsX4_nestThen ({ frames := 8, cells := 0, slots := 0, locals := 176 }) (PRW D cI [.ref a0, .int p0, .int p1, .int p2] [(a0, .inr (3, [.ref a1, .ref a2, .ref a3, .ref a4, .int gg.hs, .ref a5, .ref a6, .ref a7, .int (nI gg.L), .int (nI gg.M), .int mm.pl, .ref a8, .int mm.sd])), (a1, .inl (cI, 49, .inl gg.r)), (a2, .inl (cI, 49, .inl mm.m)), (a3, .inl (cI, 49, .inl gg.im)), (a4, .inl (cI, 49, .inl mm.ws)), (a5, .inl (cI, 96, .inl gg.lt)), (a6, .inl (cI, 16, .inl gg.rw)), (a7, .inl (cI, 7, .inl gg.rf)), (a8, .inl (cI, 3, .inl mm.nb))] sz) (va_Qi (S := GG × MS) (fun v u => (v, u.1) = sp_nestThen gg p0 p1 p2) (BRW D [(a0, .inr (3, [.ref a1, .ref a2, .ref a3, .ref a4, .int gg.hs, .ref a5, .ref a6, .ref a7, .int (nI gg.L), .int (nI gg.M), .int mm.pl, .ref a8, .int mm.sd])), (a1, .inl (cI, 49, .inl gg.r)), (a2, .inl (cI, 49, .inl mm.m)), (a3, .inl (cI, 49, .inl gg.im)), (a4, .inl (cI, 49, .inl mm.ws)), (a5, .inl (cI, 96, .inl gg.lt)), (a6, .inl (cI, 16, .inl gg.rw)), (a7, .inl (cI, 7, .inl gg.rf)), (a8, .inl (cI, 3, .inl mm.nb))] sz (fun u => [(a0, .inr (3, [.ref a1, .ref a2, .ref a3, .ref a4, .int u.1.hs, .ref a5, .ref a6, .ref a7, .int (nI u.1.L), .int (nI u.1.M), .int u.2.pl, .ref a8, .int u.2.sd])), (a1, .inl (cI, 49, .inl u.1.r)), (a2, .inl (cI, 49, .inl u.2.m)), (a3, .inl (cI, 49, .inl u.1.im)), (a4, .inl (cI, 49, .inl u.2.ws)), (a5, .inl (cI, 96, .inl u.1.lt)), (a6, .inl (cI, 16, .inl u.1.rw)), (a7, .inl (cI, 7, .inl u.1.rf)), (a8, .inl (cI, 3, .inl u.2.nb))])) (va_A [(a0, .inr (3, [.ref a1, .ref a2, .ref a3, .ref a4, .int gg.hs, .ref a5, .ref a6, .ref a7, .int (nI gg.L), .int (nI gg.M), .int mm.pl, .ref a8, .int mm.sd])), (a1, .inl (cI, 49, .inl gg.r)), (a2, .inl (cI, 49, .inl mm.m)), (a3, .inl (cI, 49, .inl gg.im)), (a4, .inl (cI, 49, .inl mm.ws)), (a5, .inl (cI, 96, .inl gg.lt)), (a6, .inl (cI, 16, .inl gg.rw)), (a7, .inl (cI, 7, .inl gg.rf)), (a8, .inl (cI, 3, .inl mm.nb))] sz)) 0 0 (va_A [(a0, .inr (3, [.ref a1, .ref a2, .ref a3, .ref a4, .int gg.hs, .ref a5, .ref a6, .ref a7, .int (nI gg.L), .int (nI gg.M), .int mm.pl, .ref a8, .int mm.sd])), (a1, .inl (cI, 49, .inl gg.r)), (a2, .inl (cI, 49, .inl mm.m)), (a3, .inl (cI, 49, .inl gg.im)), (a4, .inl (cI, 49, .inl mm.ws)), (a5, .inl (cI, 96, .inl gg.lt)), (a6, .inl (cI, 16, .inl gg.rw)), (a7, .inl (cI, 7, .inl gg.rf)), (a8, .inl (cI, 3, .inl mm.nb))] sz) := by
  refine st_rwi (cc := cX4_nestThen) (maxL := 7) (rt := .int) (by decide) rfl (Nat.le_of_ble_eq_true rfl) (fun _ _ _ => rfl) ?_
  intro p e s m below meth c Q ls A hx hb hml hts hown hP hK hD hA hS hl hret
  replace hown : s.vm.findClass RX4 = some m.cls := hown
  replace hl : lv_has ls 7 [(0, .ref a0), (1, .int p0), (2, .int p1), (3, .int p2)] := hl
  obtain ⟨H, hH⟩ : ∃ z, z = s.heap := ⟨_, rfl⟩
  obtain ⟨locs, hlo⟩ : ∃ z : List Loc, z = [] := ⟨_, rfl⟩
  replace hP : va_P D vwCl [(a0, .inr (3, [.ref a1, .ref a2, .ref a3, .ref a4, .int gg.hs, .ref a5, .ref a6, .ref a7, .int (nI gg.L), .int (nI gg.M), .int mm.pl, .ref a8, .int mm.sd])), (a1, .inl (cI, 49, .inl gg.r)), (a2, .inl (cI, 49, .inl mm.m)), (a3, .inl (cI, 49, .inl gg.im)), (a4, .inl (cI, 49, .inl mm.ws)), (a5, .inl (cI, 96, .inl gg.lt)), (a6, .inl (cI, 16, .inl gg.rw)), (a7, .inl (cI, 7, .inl gg.rf)), (a8, .inl (cI, 3, .inl mm.nb))] H := by rw [hH]; exact hP
  replace hS : va_S A s.heap H locs := by rw [hH, hlo]; exact hS
  show W p l e ({ frames := 8, cells := 0, slots := 0, locals := 176 }) s m [.ref a0, .int p0, .int p1, .int p2].toArray below meth c s.heap [] 0 0 Q (F0 m 0 ls [])
  rw [← hlo]
  suffices hgo : W p l e ({ frames := 8, cells := 0, slots := 0, locals := 176 }) s m [.ref a0, .int p0, .int p1, .int p2].toArray below meth c H locs 0 0 Q (F0 m 0 ls []) by rw [hH] at hgo; exact hgo
  clear hH hlo
  have hi_X4 : ∀ w ∈ wsX40, w ∈ wsX4_nestThen := fun w h => List.mem_cons_of_mem _ (List.mem_append_right _ (h))
  have hk_13 := hts (.fieldLink RX4 13 "NestsOfTalkModel" "m" "[I") (List.mem_of_getElem? (i := 1) rfl)
  have hI := hG.inv
  have hn9 := hI.le
  have hL96 := hG.L96
  have hM16 := hG.M16
  refine lv_iload_n hx hb dX4_nestThen_0 rfl (lv_at hl 1 rfl) ?_
  refine xc_Si (As := [.int p0]) (rest := []) ⟨hx, hb, hml, hown, hts⟩ (kX4_isWoman l D cI p0) (va_cwS 1 hts gX4_nestThen_X4_isWoman rfl rfl rfl hs_X4_isWoman ⟨Nat.le_of_ble_eq_true rfl, Nat.le_of_ble_eq_true rfl⟩) hK hP [] rfl rfl hl.1 rfl (Nat.le_of_ble_eq_true rfl) dX4_nestThen_1 ⟨Nat.zero_le _, Nat.zero_le _⟩ (fun r_1 hr_1 => ?_)
  refine lv_if_eq (tgt := 17) hx hb dX4_nestThen_4 (by decide) (fun c_2 => ?_) (fun c_2 => ?_)
  · skip
    have hb_2 : womB p0 = false := bool_f hr_1 c_2
    refine lv_iconst (v := (-1)) hx hb dX4_nestThen_17 (by decide) ?_
    refine lv_istore (lv' := [(4, .int (-1)), (0, .ref a0), (1, .int p0), (2, .int p1), (3, .int p2)]) hx hb dX4_nestThen_18 hl (by decide) rfl (fun ls hl => ?_)
    refine lv_iload hx hb dX4_nestThen_20 (lv_at hl 0 rfl) ?_
    refine lv_if_ne (tgt := 38) hx hb dX4_nestThen_22 (by decide) (fun c_3 => ?_) (fun c_3 => ?_)
    · skip
      refine lv_iload hx hb dX4_nestThen_38 (lv_at hl 0 rfl) ?_
      refine lv_if_eq (tgt := 50) hx hb dX4_nestThen_40 (by decide) (fun c_4 => ?_) (fun c_4 => ?_)
      · skip
        exact absurd c_4 (by decide)
      refine lv_aload_n hx hb dX4_nestThen_43 rfl (lv_at hl 1 rfl) ?_
      refine lv_iload hx hb dX4_nestThen_44 (lv_at hl 0 rfl) ?_
      refine xw_Vi (As := [.int (-1)]) (rest := []) (Wn := fun u => [(a0, .inr (3, [.ref a1, .ref a2, .ref a3, .ref a4, .int gg.hs, .ref a5, .ref a6, .ref a7, .int (nI gg.L), .int (nI gg.M), .int mm.pl, .ref a8, .int mm.sd])), (a1, .inl (cI, 49, .inl gg.r)), (a2, .inl (cI, 49, .inl mm.m)), (a3, .inl (cI, 49, .inl gg.im)), (a4, .inl (cI, 49, .inl mm.ws)), (a5, .inl (cI, 96, .inl gg.lt)), (a6, .inl (cI, 16, .inl gg.rw)), (a7, .inl (cI, 7, .inl (upd gg.rf (cN (-1)) (gg.rf (cN (-1)) + 1)))), (a8, .inl (cI, 3, .inl mm.nb))]) (Wr := [(a1, .inl (cI, 49, .inl gg.r)), (a2, .inl (cI, 49, .inl mm.m)), (a3, .inl (cI, 49, .inl gg.im)), (a4, .inl (cI, 49, .inl mm.ws)), (a5, .inl (cI, 96, .inl gg.lt)), (a6, .inl (cI, 16, .inl gg.rw)), (a8, .inl (cI, 3, .inl mm.nb))]) ⟨hx, hb, hml, hown, hts⟩ (kX4_no l D cI H.size a0 a1 a2 a3 a4 a5 a6 a7 a8 gg mm (-1) okc_1) (cwV 1 hts gX4_nestThen_X4_no rfl rfl rfl hv_X4_no ⟨Nat.le_of_ble_eq_true rfl, Nat.le_of_ble_eq_true rfl⟩) hK hP hD hS hA [0, 7] [1, 2, 3, 4, 5, 6, 8] [7, 0, 1, 2, 3, 4, 5, 8, 6] rfl rfl (by decide) (by decide) (by decide) (by decide) (fun u => rfl) 0 rfl rfl rfl hl.1 rfl (Nat.le_of_ble_eq_true rfl) dX4_nestThen_46 ⟨Nat.zero_le _, Nat.zero_le _⟩ (fun r_5 u_5 H locs hw_5 hP hD hS => ?_)
      exact hret 49 _ r_5 ((gg.n, gg.r, gg.m, gg.im, gg.hs, gg.lt, gg.L, gg.rw, gg.M, (upd gg.rf (cN (-1)) (gg.rf (cN (-1)) + 1))), mm) _ _ dX4_nestThen_49 (by first | (simp [sp_nestThen, rfz, us, c_2, hb_2, hw_5]; done) | (simp [sp_nestThen, rfz, us, c_2, hb_2, hw_5, isI]; done) | (simp [sp_nestThen, rfz, us, c_2, hb_2, hw_5, wrB, lackF]; done)) hP hD hS
    exact absurd c_3 (by decide)
  have hb_2 : womB p0 = true := bool_t hr_1 c_2
  obtain ⟨w_2, hw_2, ew_2⟩ := womB_iff.1 hb_2
  refine lv_iload_n hx hb dX4_nestThen_7 rfl (lv_at hl 2 rfl) ?_
  refine lv_iconst (v := 0) hx hb dX4_nestThen_8 (by decide) ?_
  refine lv_bipush (v := 60) hx hb dX4_nestThen_9 (by decide) ?_
  refine xc_Si (As := [.int p1, .int 0, .int 60]) (rest := []) ⟨hx, hb, hml, hown, hts⟩ (kX4_wrongBy l D cI p1 0 60) (va_cwS 3 hts gX4_nestThen_X4_wrongBy rfl rfl rfl hs_X4_wrongBy ⟨Nat.le_of_ble_eq_true rfl, Nat.le_of_ble_eq_true rfl⟩) hK hP [] rfl rfl hl.1 rfl (Nat.le_of_ble_eq_true rfl) dX4_nestThen_11 ⟨Nat.zero_le _, Nat.zero_le _⟩ (fun r_6 hr_6 => ?_)
  replace hr_6 : r_6 = wrB p1 0 60 := hr_6
  refine lv_goto (tgt := 18) hx hb dX4_nestThen_14 (by decide) ?_
  refine lv_istore (lv' := [(4, .int r_6), (0, .ref a0), (1, .int p0), (2, .int p1), (3, .int p2)]) hx hb dX4_nestThen_18 hl (by decide) rfl (fun ls hl => ?_)
  refine lv_iload hx hb dX4_nestThen_20 (lv_at hl 0 rfl) ?_
  refine lv_if_ne (tgt := 38) hx hb dX4_nestThen_22 (by decide) (fun c_7 => ?_) (fun c_7 => ?_)
  · skip
    have hv_7 : ¬ wrB p1 0 60 = 0 := fun q => c_7 (hr_6.trans q)
    refine lv_iload hx hb dX4_nestThen_38 (lv_at hl 0 rfl) ?_
    refine lv_if_eq (tgt := 50) hx hb dX4_nestThen_40 (by decide) (fun c_8 => ?_) (fun c_8 => ?_)
    · skip
      exact absurd c_8 c_7
    refine lv_aload_n hx hb dX4_nestThen_43 rfl (lv_at hl 1 rfl) ?_
    refine lv_iload hx hb dX4_nestThen_44 (lv_at hl 0 rfl) ?_
    refine xw_Vi (As := [.int r_6]) (rest := []) (Wn := fun u => [(a0, .inr (3, [.ref a1, .ref a2, .ref a3, .ref a4, .int gg.hs, .ref a5, .ref a6, .ref a7, .int (nI gg.L), .int (nI gg.M), .int mm.pl, .ref a8, .int mm.sd])), (a1, .inl (cI, 49, .inl gg.r)), (a2, .inl (cI, 49, .inl mm.m)), (a3, .inl (cI, 49, .inl gg.im)), (a4, .inl (cI, 49, .inl mm.ws)), (a5, .inl (cI, 96, .inl gg.lt)), (a6, .inl (cI, 16, .inl gg.rw)), (a7, .inl (cI, 7, .inl (upd gg.rf (cN r_6) (gg.rf (cN r_6) + 1)))), (a8, .inl (cI, 3, .inl mm.nb))]) (Wr := [(a1, .inl (cI, 49, .inl gg.r)), (a2, .inl (cI, 49, .inl mm.m)), (a3, .inl (cI, 49, .inl gg.im)), (a4, .inl (cI, 49, .inl mm.ws)), (a5, .inl (cI, 96, .inl gg.lt)), (a6, .inl (cI, 16, .inl gg.rw)), (a8, .inl (cI, 3, .inl mm.nb))]) ⟨hx, hb, hml, hown, hts⟩ (kX4_no l D cI H.size a0 a1 a2 a3 a4 a5 a6 a7 a8 gg mm r_6 (okc_of hr_6 c_7)) (cwV 1 hts gX4_nestThen_X4_no rfl rfl rfl hv_X4_no ⟨Nat.le_of_ble_eq_true rfl, Nat.le_of_ble_eq_true rfl⟩) hK hP hD hS hA [0, 7] [1, 2, 3, 4, 5, 6, 8] [7, 0, 1, 2, 3, 4, 5, 8, 6] rfl rfl (by decide) (by decide) (by decide) (by decide) (fun u => rfl) 0 rfl rfl rfl hl.1 rfl (Nat.le_of_ble_eq_true rfl) dX4_nestThen_46 ⟨Nat.zero_le _, Nat.zero_le _⟩ (fun r_9 u_9 H locs hw_9 hP hD hS => ?_)
    exact hret 49 _ r_9 ((gg.n, gg.r, gg.m, gg.im, gg.hs, gg.lt, gg.L, gg.rw, gg.M, (upd gg.rf (cN r_6) (gg.rf (cN r_6) + 1))), mm) _ _ dX4_nestThen_49 (by first | (simp [sp_nestThen, rfz, us, c_2, c_7, hb_2, hv_7, hw_9, hr_6]; done) | (simp [sp_nestThen, rfz, us, c_2, c_7, hb_2, hv_7, hw_9, hr_6, isI]; done) | (simp [sp_nestThen, rfz, us, c_2, c_7, hb_2, hv_7, hw_9, hr_6, wrB, lackF]; done)) hP hD hS
  have hv_7 : wrB p1 0 60 = 0 := hr_6.symm.trans c_7
  obtain ⟨v_7, vl_7, vu_7, ev_7⟩ := wrB_nat (a := 0) (b := 60) (rfl : (0 : Int32) = nI 0) (rfl : (60 : Int32) = nI 60) (by decide) (by decide) hv_7
  have tn_7 : tN p1 = v_7 := by rw [ev_7]; exact tN_nI (by omega)
  refine lv_iload_n hx hb dX4_nestThen_25 rfl (lv_at hl 4 rfl) ?_
  refine lv_iconst (v := 0) hx hb dX4_nestThen_26 (by decide) ?_
  refine lv_iconst (v := 3) hx hb dX4_nestThen_27 (by decide) ?_
  refine xc_Si (As := [.int p2, .int 0, .int 3]) (rest := []) ⟨hx, hb, hml, hown, hts⟩ (kX4_isIn l D cI p2 0 3) (va_cwS 3 hts gX4_nestThen_X4_isIn rfl rfl rfl hs_X4_isIn ⟨Nat.le_of_ble_eq_true rfl, Nat.le_of_ble_eq_true rfl⟩) hK hP [] rfl rfl hl.1 rfl (Nat.le_of_ble_eq_true rfl) dX4_nestThen_28 ⟨Nat.zero_le _, Nat.zero_le _⟩ (fun r_10 hr_10 => ?_)
  refine lv_if_ne (tgt := 38) hx hb dX4_nestThen_31 (by decide) (fun c_11 => ?_) (fun c_11 => ?_)
  · skip
    have hb_11 : isI p2 0 3 = true := bool_t (hr_10.trans isI_ite) c_11
    obtain ⟨i_11, il_11, iu_11, ei_11⟩ := isI_nat (a := 0) (b := 3) (rfl : (0 : Int32) = nI 0) (rfl : (3 : Int32) = nI 3) (by decide) (by omega) hb_11
    have tn_11 : tN p2 = i_11 := by rw [ei_11]; exact tN_nI (by omega)
    refine lv_iload hx hb dX4_nestThen_38 (lv_at hl 0 rfl) ?_
    refine lv_if_eq (tgt := 50) hx hb dX4_nestThen_40 (by decide) (fun c_12 => ?_) (fun c_12 => ?_)
    · skip
      refine lv_aload_n hx hb dX4_nestThen_50 rfl (lv_at hl 1 rfl) ?_
      refine lv_iload_n hx hb dX4_nestThen_51 rfl (lv_at hl 3 rfl) ?_
      refine xw_Vi (As := [.int p1]) (rest := []) (Wn := fun u => [(a0, .inr (3, [.ref a1, .ref a2, .ref a3, .ref a4, .int gg.hs, .ref a5, .ref a6, .ref a7, .int (nI gg.L), .int (nI gg.M), .int mm.pl, .ref a8, .int mm.sd])), (a1, .inl (cI, 49, .inl gg.r)), (a2, .inl (cI, 49, .inl (dsR gg.r gg.n v_7))), (a3, .inl (cI, 49, .inl gg.im)), (a4, .inl (cI, 49, .inl mm.ws)), (a5, .inl (cI, 96, .inl gg.lt)), (a6, .inl (cI, 16, .inl gg.rw)), (a7, .inl (cI, 7, .inl gg.rf)), (a8, .inl (cI, 3, .inl mm.nb))]) (Wr := []) ⟨hx, hb, hml, hown, hts⟩ (kX4_takesOn l D cI H.size a0 a1 a2 a3 a4 a5 a6 a7 a8 gg mm hG p1 v_7 ev_7 (by omega)) (cwV 1 hts gX4_nestThen_X4_takesOn rfl rfl rfl hv_X4_takesOn ⟨Nat.le_of_ble_eq_true rfl, Nat.le_of_ble_eq_true rfl⟩) hK hP hD hS hA [0, 1, 2, 3, 4, 5, 6, 7, 8] [] [0, 1, 2, 3, 4, 5, 6, 7, 8] rfl rfl (by decide) (by decide) (by decide) (by decide) (fun u => rfl) 0 rfl rfl rfl hl.1 rfl (Nat.le_of_ble_eq_true rfl) dX4_nestThen_52 ⟨Nat.zero_le _, Nat.zero_le _⟩ (fun r_13 u_13 H locs hw_13 hP hD hS => ?_)
      have hI_13 : Inv gg.n (dsR gg.r gg.n v_7) := hI.idsR _
      refine lv_istore (lv' := [(5, .int r_13), (4, .int r_6), (0, .ref a0), (1, .int p0), (2, .int p1), (3, .int p2)]) hx hb dX4_nestThen_55 hl (by decide) rfl (fun ls hl => ?_)
      refine lv_aload_n hx hb dX4_nestThen_57 rfl (lv_at hl 2 rfl) ?_
      refine va_get (D := D) (ci := 3) (v := .ref a2) (C := RX4) (T := TX4) (N := 13) hx hb hts hi_X4 hown hK.1 hP 0 rfl rfl 1 (by decide) hk_13 (fun _ h9 => h9) rfl dX4_nestThen_58 ?_
      refine lv_iload_n hx hb dX4_nestThen_61 rfl (lv_at hl 3 rfl) ?_
      refine xc_Si (As := [.ref a2, .int p0]) (rest := []) ⟨hx, hb, hml, hown, hts⟩ (kX4_nestIn l D cI a2 (dsR gg.r gg.n v_7) gg.n hI_13 p0) (va_cwS 2 hts gX4_nestThen_X4_nestIn rfl rfl rfl hs_X4_nestIn ⟨Nat.le_of_ble_eq_true rfl, Nat.le_of_ble_eq_true rfl⟩) hK hP [2] rfl rfl hl.1 rfl (Nat.le_of_ble_eq_true rfl) dX4_nestThen_62 ⟨Nat.zero_le _, Nat.zero_le _⟩ (fun r_14 hr_14 => ?_)
      refine lv_istore (lv' := [(6, .int r_14), (5, .int r_13), (4, .int r_6), (0, .ref a0), (1, .int p0), (2, .int p1), (3, .int p2)]) hx hb dX4_nestThen_65 hl (by decide) rfl (fun ls hl => ?_)
      refine lv_iload_n hx hb dX4_nestThen_67 rfl (lv_at hl 6 rfl) ?_
      refine lv_if_ne (tgt := 76) hx hb dX4_nestThen_68 (by decide) (fun c_15 => ?_) (fun c_15 => ?_)
      · skip
        have n_15 : ¬ i_11 = 0 := fun q => c_15 ((ni_eq (a := i_11) (b := 0) ei_11 (rfl : (0 : Int32) = nI 0) (by omega) (by decide)).mpr q)
        refine lv_aload_n hx hb dX4_nestThen_76 rfl (lv_at hl 3 rfl) ?_
        refine va_get (D := D) (ci := 3) (v := .ref a2) (C := RX4) (T := TX4) (N := 13) hx hb hts hi_X4 hown hK.1 hP 0 rfl rfl 1 (by decide) hk_13 (fun _ h9 => h9) rfl dX4_nestThen_77 ?_
        refine lv_iload hx hb dX4_nestThen_80 (lv_at hl 0 rfl) ?_
        refine lv_iload_n hx hb dX4_nestThen_82 rfl (lv_at hl 6 rfl) ?_
        refine xc_Si (As := [.ref a2, .int r_14, .int p2]) (rest := []) ⟨hx, hb, hml, hown, hts⟩ (kX4_sumOf l D cI a2 (dsR gg.r gg.n v_7) gg.n hI_13 r_14 p2) (va_cwS 3 hts gX4_nestThen_X4_sumOf rfl rfl rfl hs_X4_sumOf ⟨Nat.le_of_ble_eq_true rfl, Nat.le_of_ble_eq_true rfl⟩) hK hP [2] rfl rfl hl.1 rfl (Nat.le_of_ble_eq_true rfl) dX4_nestThen_83 ⟨Nat.zero_le _, Nat.zero_le _⟩ (fun r_16 hr_16 => ?_)
        exact hret 86 _ r_16 (gg, ((dsR gg.r gg.n v_7), mm.ws, mm.nb, mm.pl, mm.sd)) _ _ dX4_nestThen_86 (by first | (simp [sp_nestThen, rfz, us, c_2, c_7, c_11, c_15, hb_2, hv_7, tn_7, hb_11, tn_11, n_15, hr_6, hw_13, hr_14, hr_16]; done) | (simp [sp_nestThen, rfz, us, c_2, c_7, c_11, c_15, hb_2, hv_7, tn_7, hb_11, tn_11, n_15, hr_6, hw_13, hr_14, hr_16, isI]; done) | (simp [sp_nestThen, rfz, us, c_2, c_7, c_11, c_15, hb_2, hv_7, tn_7, hb_11, tn_11, n_15, hr_6, hw_13, hr_14, hr_16, wrB, lackF]; done)) hP hD hS
      have n_15 : i_11 = 0 := (ni_eq (a := i_11) (b := 0) ei_11 (rfl : (0 : Int32) = nI 0) (by omega) (by decide)).mp c_15
      refine lv_iload hx hb dX4_nestThen_71 (lv_at hl 0 rfl) ?_
      refine lv_goto (tgt := 86) hx hb dX4_nestThen_73 (by decide) ?_
      exact hret 86 _ r_14 (gg, ((dsR gg.r gg.n v_7), mm.ws, mm.nb, mm.pl, mm.sd)) _ _ dX4_nestThen_86 (by first | (simp [sp_nestThen, rfz, us, c_2, c_7, c_11, c_15, hb_2, hv_7, tn_7, hb_11, tn_11, n_15, hr_6, hw_13, hr_14]; done) | (simp [sp_nestThen, rfz, us, c_2, c_7, c_11, c_15, hb_2, hv_7, tn_7, hb_11, tn_11, n_15, hr_6, hw_13, hr_14, isI]; done) | (simp [sp_nestThen, rfz, us, c_2, c_7, c_11, c_15, hb_2, hv_7, tn_7, hb_11, tn_11, n_15, hr_6, hw_13, hr_14, wrB, lackF]; done)) hP hD hS
    exact absurd c_7 c_12
  have hb_11 : isI p2 0 3 = false := bool_f (hr_10.trans isI_ite) c_11
  refine lv_bipush (v := (-2)) hx hb dX4_nestThen_34 (by decide) ?_
  refine lv_istore (lv' := [(4, .int (-2)), (0, .ref a0), (1, .int p0), (2, .int p1), (3, .int p2)]) hx hb dX4_nestThen_36 hl (by decide) rfl (fun ls hl => ?_)
  refine lv_iload hx hb dX4_nestThen_38 (lv_at hl 0 rfl) ?_
  refine lv_if_eq (tgt := 50) hx hb dX4_nestThen_40 (by decide) (fun c_17 => ?_) (fun c_17 => ?_)
  · skip
    exact absurd c_17 (by decide)
  refine lv_aload_n hx hb dX4_nestThen_43 rfl (lv_at hl 1 rfl) ?_
  refine lv_iload hx hb dX4_nestThen_44 (lv_at hl 0 rfl) ?_
  refine xw_Vi (As := [.int (-2)]) (rest := []) (Wn := fun u => [(a0, .inr (3, [.ref a1, .ref a2, .ref a3, .ref a4, .int gg.hs, .ref a5, .ref a6, .ref a7, .int (nI gg.L), .int (nI gg.M), .int mm.pl, .ref a8, .int mm.sd])), (a1, .inl (cI, 49, .inl gg.r)), (a2, .inl (cI, 49, .inl mm.m)), (a3, .inl (cI, 49, .inl gg.im)), (a4, .inl (cI, 49, .inl mm.ws)), (a5, .inl (cI, 96, .inl gg.lt)), (a6, .inl (cI, 16, .inl gg.rw)), (a7, .inl (cI, 7, .inl (upd gg.rf (cN (-2)) (gg.rf (cN (-2)) + 1)))), (a8, .inl (cI, 3, .inl mm.nb))]) (Wr := [(a1, .inl (cI, 49, .inl gg.r)), (a2, .inl (cI, 49, .inl mm.m)), (a3, .inl (cI, 49, .inl gg.im)), (a4, .inl (cI, 49, .inl mm.ws)), (a5, .inl (cI, 96, .inl gg.lt)), (a6, .inl (cI, 16, .inl gg.rw)), (a8, .inl (cI, 3, .inl mm.nb))]) ⟨hx, hb, hml, hown, hts⟩ (kX4_no l D cI H.size a0 a1 a2 a3 a4 a5 a6 a7 a8 gg mm (-2) okc_2) (cwV 1 hts gX4_nestThen_X4_no rfl rfl rfl hv_X4_no ⟨Nat.le_of_ble_eq_true rfl, Nat.le_of_ble_eq_true rfl⟩) hK hP hD hS hA [0, 7] [1, 2, 3, 4, 5, 6, 8] [7, 0, 1, 2, 3, 4, 5, 8, 6] rfl rfl (by decide) (by decide) (by decide) (by decide) (fun u => rfl) 0 rfl rfl rfl hl.1 rfl (Nat.le_of_ble_eq_true rfl) dX4_nestThen_46 ⟨Nat.zero_le _, Nat.zero_le _⟩ (fun r_18 u_18 H locs hw_18 hP hD hS => ?_)
  exact hret 49 _ r_18 ((gg.n, gg.r, gg.m, gg.im, gg.hs, gg.lt, gg.L, gg.rw, gg.M, (upd gg.rf (cN (-2)) (gg.rf (cN (-2)) + 1))), mm) _ _ dX4_nestThen_49 (by first | (simp [sp_nestThen, rfz, us, c_2, c_7, c_11, hb_2, hv_7, tn_7, hb_11, hw_18, hr_6]; done) | (simp [sp_nestThen, rfz, us, c_2, c_7, c_11, hb_2, hv_7, tn_7, hb_11, hw_18, hr_6, isI]; done) | (simp [sp_nestThen, rfz, us, c_2, c_7, c_11, hb_2, hv_7, tn_7, hb_11, hw_18, hr_6, wrB, lackF]; done)) hP hD hS

set_option maxHeartbeats 4000000 in
set_option maxRecDepth 100000 in
theorem kX4_robbedThen (l : Launch) (D : va_G) (cI : ClassId) (sz : Nat) (a0 a1 a2 a3 a4 a5 a6 a7 a8 : Nat) (gg : GG) (mm : MS) (hG : Good gg) (p0 : Int32) : Met l yX4_robbedThen wsX4_robbedThen ({ frames := 8, cells := 0, slots := 0, locals := 176 }) (PRW D cI [.ref a0, .int p0] [(a0, .inr (3, [.ref a1, .ref a2, .ref a3, .ref a4, .int gg.hs, .ref a5, .ref a6, .ref a7, .int (nI gg.L), .int (nI gg.M), .int mm.pl, .ref a8, .int mm.sd])), (a1, .inl (cI, 49, .inl gg.r)), (a2, .inl (cI, 49, .inl mm.m)), (a3, .inl (cI, 49, .inl gg.im)), (a4, .inl (cI, 49, .inl mm.ws)), (a5, .inl (cI, 96, .inl gg.lt)), (a6, .inl (cI, 16, .inl gg.rw)), (a7, .inl (cI, 7, .inl gg.rf)), (a8, .inl (cI, 3, .inl mm.nb))] sz) (va_Qi (S := GG × MS) (fun v u => (v, u.1) = sp_robbedThen gg p0) (BRW D [(a0, .inr (3, [.ref a1, .ref a2, .ref a3, .ref a4, .int gg.hs, .ref a5, .ref a6, .ref a7, .int (nI gg.L), .int (nI gg.M), .int mm.pl, .ref a8, .int mm.sd])), (a1, .inl (cI, 49, .inl gg.r)), (a2, .inl (cI, 49, .inl mm.m)), (a3, .inl (cI, 49, .inl gg.im)), (a4, .inl (cI, 49, .inl mm.ws)), (a5, .inl (cI, 96, .inl gg.lt)), (a6, .inl (cI, 16, .inl gg.rw)), (a7, .inl (cI, 7, .inl gg.rf)), (a8, .inl (cI, 3, .inl mm.nb))] sz (fun u => [(a0, .inr (3, [.ref a1, .ref a2, .ref a3, .ref a4, .int u.1.hs, .ref a5, .ref a6, .ref a7, .int (nI u.1.L), .int (nI u.1.M), .int u.2.pl, .ref a8, .int u.2.sd])), (a1, .inl (cI, 49, .inl u.1.r)), (a2, .inl (cI, 49, .inl u.2.m)), (a3, .inl (cI, 49, .inl u.1.im)), (a4, .inl (cI, 49, .inl u.2.ws)), (a5, .inl (cI, 96, .inl u.1.lt)), (a6, .inl (cI, 16, .inl u.1.rw)), (a7, .inl (cI, 7, .inl u.1.rf)), (a8, .inl (cI, 3, .inl u.2.nb))])) (va_A [(a0, .inr (3, [.ref a1, .ref a2, .ref a3, .ref a4, .int gg.hs, .ref a5, .ref a6, .ref a7, .int (nI gg.L), .int (nI gg.M), .int mm.pl, .ref a8, .int mm.sd])), (a1, .inl (cI, 49, .inl gg.r)), (a2, .inl (cI, 49, .inl mm.m)), (a3, .inl (cI, 49, .inl gg.im)), (a4, .inl (cI, 49, .inl mm.ws)), (a5, .inl (cI, 96, .inl gg.lt)), (a6, .inl (cI, 16, .inl gg.rw)), (a7, .inl (cI, 7, .inl gg.rf)), (a8, .inl (cI, 3, .inl mm.nb))] sz)) 0 0 (va_A [(a0, .inr (3, [.ref a1, .ref a2, .ref a3, .ref a4, .int gg.hs, .ref a5, .ref a6, .ref a7, .int (nI gg.L), .int (nI gg.M), .int mm.pl, .ref a8, .int mm.sd])), (a1, .inl (cI, 49, .inl gg.r)), (a2, .inl (cI, 49, .inl mm.m)), (a3, .inl (cI, 49, .inl gg.im)), (a4, .inl (cI, 49, .inl mm.ws)), (a5, .inl (cI, 96, .inl gg.lt)), (a6, .inl (cI, 16, .inl gg.rw)), (a7, .inl (cI, 7, .inl gg.rf)), (a8, .inl (cI, 3, .inl mm.nb))] sz) := by
  refine st_rwi (cc := cX4_robbedThen) (maxL := 4) (rt := .int) (by decide) rfl (Nat.le_of_ble_eq_true rfl) (fun _ _ _ => rfl) ?_
  intro p e s m below meth c Q ls A hx hb hml hts hown hP hK hD hA hS hl hret
  replace hown : s.vm.findClass RX4 = some m.cls := hown
  replace hl : lv_has ls 4 [(0, .ref a0), (1, .int p0)] := hl
  obtain ⟨H, hH⟩ : ∃ z, z = s.heap := ⟨_, rfl⟩
  obtain ⟨locs, hlo⟩ : ∃ z : List Loc, z = [] := ⟨_, rfl⟩
  replace hP : va_P D vwCl [(a0, .inr (3, [.ref a1, .ref a2, .ref a3, .ref a4, .int gg.hs, .ref a5, .ref a6, .ref a7, .int (nI gg.L), .int (nI gg.M), .int mm.pl, .ref a8, .int mm.sd])), (a1, .inl (cI, 49, .inl gg.r)), (a2, .inl (cI, 49, .inl mm.m)), (a3, .inl (cI, 49, .inl gg.im)), (a4, .inl (cI, 49, .inl mm.ws)), (a5, .inl (cI, 96, .inl gg.lt)), (a6, .inl (cI, 16, .inl gg.rw)), (a7, .inl (cI, 7, .inl gg.rf)), (a8, .inl (cI, 3, .inl mm.nb))] H := by rw [hH]; exact hP
  replace hS : va_S A s.heap H locs := by rw [hH, hlo]; exact hS
  show W p l e ({ frames := 8, cells := 0, slots := 0, locals := 176 }) s m [.ref a0, .int p0].toArray below meth c s.heap [] 0 0 Q (F0 m 0 ls [])
  rw [← hlo]
  suffices hgo : W p l e ({ frames := 8, cells := 0, slots := 0, locals := 176 }) s m [.ref a0, .int p0].toArray below meth c H locs 0 0 Q (F0 m 0 ls []) by rw [hH] at hgo; exact hgo
  clear hH hlo
  have hi_X4 : ∀ w ∈ wsX40, w ∈ wsX4_robbedThen := fun w h => List.mem_cons_of_mem _ (List.mem_append_right _ (h))
  have hk_13 := hts (.fieldLink RX4 13 "NestsOfTalkModel" "m" "[I") (List.mem_of_getElem? (i := 1) rfl)
  have hI := hG.inv
  have hn9 := hI.le
  have hL96 := hG.L96
  have hM16 := hG.M16
  refine lv_iload_n hx hb dX4_robbedThen_0 rfl (lv_at hl 1 rfl) ?_
  refine lv_iconst (v := 0) hx hb dX4_robbedThen_1 (by decide) ?_
  refine lv_bipush (v := 60) hx hb dX4_robbedThen_2 (by decide) ?_
  refine xc_Si (As := [.int p0, .int 0, .int 60]) (rest := []) ⟨hx, hb, hml, hown, hts⟩ (kX4_wrongBy l D cI p0 0 60) (va_cwS 3 hts gX4_robbedThen_X4_wrongBy rfl rfl rfl hs_X4_wrongBy ⟨Nat.le_of_ble_eq_true rfl, Nat.le_of_ble_eq_true rfl⟩) hK hP [] rfl rfl hl.1 rfl (Nat.le_of_ble_eq_true rfl) dX4_robbedThen_4 ⟨Nat.zero_le _, Nat.zero_le _⟩ (fun r_1 hr_1 => ?_)
  replace hr_1 : r_1 = wrB p0 0 60 := hr_1
  refine lv_istore_n (lv' := [(2, .int r_1), (0, .ref a0), (1, .int p0)]) hx hb dX4_robbedThen_7 rfl hl (by decide) rfl (fun ls hl => ?_)
  refine lv_iload_n hx hb dX4_robbedThen_8 rfl (lv_at hl 0 rfl) ?_
  refine lv_if_eq (tgt := 18) hx hb dX4_robbedThen_9 (by decide) (fun c_2 => ?_) (fun c_2 => ?_)
  · skip
    have hv_2 : wrB p0 0 60 = 0 := hr_1.symm.trans c_2
    obtain ⟨v_2, vl_2, vu_2, ev_2⟩ := wrB_nat (a := 0) (b := 60) (rfl : (0 : Int32) = nI 0) (rfl : (60 : Int32) = nI 60) (by decide) (by decide) hv_2
    have tn_2 : tN p0 = v_2 := by rw [ev_2]; exact tN_nI (by omega)
    refine lv_aload_n hx hb dX4_robbedThen_18 rfl (lv_at hl 1 rfl) ?_
    refine lv_iload_n hx hb dX4_robbedThen_19 rfl (lv_at hl 2 rfl) ?_
    refine xw_Vi (As := [.int p0]) (rest := []) (Wn := fun u => [(a0, .inr (3, [.ref a1, .ref a2, .ref a3, .ref a4, .int gg.hs, .ref a5, .ref a6, .ref a7, .int (nI gg.L), .int (nI gg.M), .int mm.pl, .ref a8, .int mm.sd])), (a1, .inl (cI, 49, .inl gg.r)), (a2, .inl (cI, 49, .inl (dsR gg.r gg.n v_2))), (a3, .inl (cI, 49, .inl gg.im)), (a4, .inl (cI, 49, .inl mm.ws)), (a5, .inl (cI, 96, .inl gg.lt)), (a6, .inl (cI, 16, .inl gg.rw)), (a7, .inl (cI, 7, .inl gg.rf)), (a8, .inl (cI, 3, .inl mm.nb))]) (Wr := []) ⟨hx, hb, hml, hown, hts⟩ (kX4_takesOn l D cI H.size a0 a1 a2 a3 a4 a5 a6 a7 a8 gg mm hG p0 v_2 ev_2 (by omega)) (cwV 1 hts gX4_robbedThen_X4_takesOn rfl rfl rfl hv_X4_takesOn ⟨Nat.le_of_ble_eq_true rfl, Nat.le_of_ble_eq_true rfl⟩) hK hP hD hS hA [0, 1, 2, 3, 4, 5, 6, 7, 8] [] [0, 1, 2, 3, 4, 5, 6, 7, 8] rfl rfl (by decide) (by decide) (by decide) (by decide) (fun u => rfl) 0 rfl rfl rfl hl.1 rfl (Nat.le_of_ble_eq_true rfl) dX4_robbedThen_20 ⟨Nat.zero_le _, Nat.zero_le _⟩ (fun r_3 u_3 H locs hw_3 hP hD hS => ?_)
    have hI_3 : Inv gg.n (dsR gg.r gg.n v_2) := hI.idsR _
    refine lv_istore_n (lv' := [(3, .int r_3), (2, .int r_1), (0, .ref a0), (1, .int p0)]) hx hb dX4_robbedThen_23 rfl hl (by decide) rfl (fun ls hl => ?_)
    refine lv_aload_n hx hb dX4_robbedThen_24 rfl (lv_at hl 2 rfl) ?_
    refine va_get (D := D) (ci := 3) (v := .ref a2) (C := RX4) (T := TX4) (N := 13) hx hb hts hi_X4 hown hK.1 hP 0 rfl rfl 1 (by decide) hk_13 (fun _ h9 => h9) rfl dX4_robbedThen_25 ?_
    refine lv_iconst (v := 2) hx hb dX4_robbedThen_28 (by decide) ?_
    refine xa_ld hx hb hK hP 2 rfl (j := 2) (rfl : (2 : Int32) = nI 2) (by omega) (by decide) dX4_robbedThen_29 ?_
    exact hret 30 _ ((dsR gg.r gg.n v_2) 2) (gg, ((dsR gg.r gg.n v_2), mm.ws, mm.nb, mm.pl, mm.sd)) _ _ dX4_robbedThen_30 (by first | (simp [sp_robbedThen, rfz, us, c_2, hv_2, tn_2, hr_1, hw_3]; done) | (simp [sp_robbedThen, rfz, us, c_2, hv_2, tn_2, hr_1, hw_3, isI]; done) | (simp [sp_robbedThen, rfz, us, c_2, hv_2, tn_2, hr_1, hw_3, wrB, lackF]; done)) hP hD hS
  have hv_2 : ¬ wrB p0 0 60 = 0 := fun q => c_2 (hr_1.trans q)
  refine lv_aload_n hx hb dX4_robbedThen_12 rfl (lv_at hl 1 rfl) ?_
  refine lv_iload_n hx hb dX4_robbedThen_13 rfl (lv_at hl 0 rfl) ?_
  refine xw_Vi (As := [.int r_1]) (rest := []) (Wn := fun u => [(a0, .inr (3, [.ref a1, .ref a2, .ref a3, .ref a4, .int gg.hs, .ref a5, .ref a6, .ref a7, .int (nI gg.L), .int (nI gg.M), .int mm.pl, .ref a8, .int mm.sd])), (a1, .inl (cI, 49, .inl gg.r)), (a2, .inl (cI, 49, .inl mm.m)), (a3, .inl (cI, 49, .inl gg.im)), (a4, .inl (cI, 49, .inl mm.ws)), (a5, .inl (cI, 96, .inl gg.lt)), (a6, .inl (cI, 16, .inl gg.rw)), (a7, .inl (cI, 7, .inl (upd gg.rf (cN r_1) (gg.rf (cN r_1) + 1)))), (a8, .inl (cI, 3, .inl mm.nb))]) (Wr := [(a1, .inl (cI, 49, .inl gg.r)), (a2, .inl (cI, 49, .inl mm.m)), (a3, .inl (cI, 49, .inl gg.im)), (a4, .inl (cI, 49, .inl mm.ws)), (a5, .inl (cI, 96, .inl gg.lt)), (a6, .inl (cI, 16, .inl gg.rw)), (a8, .inl (cI, 3, .inl mm.nb))]) ⟨hx, hb, hml, hown, hts⟩ (kX4_no l D cI H.size a0 a1 a2 a3 a4 a5 a6 a7 a8 gg mm r_1 (okc_of hr_1 c_2)) (cwV 1 hts gX4_robbedThen_X4_no rfl rfl rfl hv_X4_no ⟨Nat.le_of_ble_eq_true rfl, Nat.le_of_ble_eq_true rfl⟩) hK hP hD hS hA [0, 7] [1, 2, 3, 4, 5, 6, 8] [7, 0, 1, 2, 3, 4, 5, 8, 6] rfl rfl (by decide) (by decide) (by decide) (by decide) (fun u => rfl) 0 rfl rfl rfl hl.1 rfl (Nat.le_of_ble_eq_true rfl) dX4_robbedThen_14 ⟨Nat.zero_le _, Nat.zero_le _⟩ (fun r_4 u_4 H locs hw_4 hP hD hS => ?_)
  exact hret 17 _ r_4 ((gg.n, gg.r, gg.m, gg.im, gg.hs, gg.lt, gg.L, gg.rw, gg.M, (upd gg.rf (cN r_1) (gg.rf (cN r_1) + 1))), mm) _ _ dX4_robbedThen_17 (by first | (simp [sp_robbedThen, rfz, us, c_2, hv_2, hw_4, hr_1]; done) | (simp [sp_robbedThen, rfz, us, c_2, hv_2, hw_4, hr_1, isI]; done) | (simp [sp_robbedThen, rfz, us, c_2, hv_2, hw_4, hr_1, wrB, lackF]; done)) hP hD hS

set_option maxHeartbeats 4000000 in
set_option maxRecDepth 100000 in
theorem kX4_whenFalls (l : Launch) (D : va_G) (cI : ClassId) (sz : Nat) (a0 a1 a2 a3 a4 a5 a6 a7 a8 : Nat) (gg : GG) (mm : MS) (hG : Good gg) (p0 : Int32) : Met l yX4_whenFalls wsX4_whenFalls ({ frames := 6, cells := 0, slots := 0, locals := 132 }) (PRW D cI [.ref a0, .int p0] [(a0, .inr (3, [.ref a1, .ref a2, .ref a3, .ref a4, .int gg.hs, .ref a5, .ref a6, .ref a7, .int (nI gg.L), .int (nI gg.M), .int mm.pl, .ref a8, .int mm.sd])), (a1, .inl (cI, 49, .inl gg.r)), (a2, .inl (cI, 49, .inl mm.m)), (a3, .inl (cI, 49, .inl gg.im)), (a4, .inl (cI, 49, .inl mm.ws)), (a5, .inl (cI, 96, .inl gg.lt)), (a6, .inl (cI, 16, .inl gg.rw)), (a7, .inl (cI, 7, .inl gg.rf)), (a8, .inl (cI, 3, .inl mm.nb))] sz) (va_Qi (S := RR) (fun v _ => v = whF gg.r gg.n p0) (BRW D [(a0, .inr (3, [.ref a1, .ref a2, .ref a3, .ref a4, .int gg.hs, .ref a5, .ref a6, .ref a7, .int (nI gg.L), .int (nI gg.M), .int mm.pl, .ref a8, .int mm.sd])), (a1, .inl (cI, 49, .inl gg.r)), (a2, .inl (cI, 49, .inl mm.m)), (a3, .inl (cI, 49, .inl gg.im)), (a4, .inl (cI, 49, .inl mm.ws)), (a5, .inl (cI, 96, .inl gg.lt)), (a6, .inl (cI, 16, .inl gg.rw)), (a7, .inl (cI, 7, .inl gg.rf)), (a8, .inl (cI, 3, .inl mm.nb))] sz (fun u => [(a0, .inr (3, [.ref a1, .ref a2, .ref a3, .ref a4, .int gg.hs, .ref a5, .ref a6, .ref a7, .int (nI gg.L), .int (nI gg.M), .int mm.pl, .ref a8, .int mm.sd])), (a1, .inl (cI, 49, .inl gg.r)), (a2, .inl (cI, 49, .inl u)), (a3, .inl (cI, 49, .inl gg.im)), (a4, .inl (cI, 49, .inl mm.ws)), (a5, .inl (cI, 96, .inl gg.lt)), (a6, .inl (cI, 16, .inl gg.rw)), (a7, .inl (cI, 7, .inl gg.rf)), (a8, .inl (cI, 3, .inl mm.nb))])) (va_A [(a0, .inr (3, [.ref a1, .ref a2, .ref a3, .ref a4, .int gg.hs, .ref a5, .ref a6, .ref a7, .int (nI gg.L), .int (nI gg.M), .int mm.pl, .ref a8, .int mm.sd])), (a1, .inl (cI, 49, .inl gg.r)), (a2, .inl (cI, 49, .inl mm.m)), (a3, .inl (cI, 49, .inl gg.im)), (a4, .inl (cI, 49, .inl mm.ws)), (a5, .inl (cI, 96, .inl gg.lt)), (a6, .inl (cI, 16, .inl gg.rw)), (a7, .inl (cI, 7, .inl gg.rf)), (a8, .inl (cI, 3, .inl mm.nb))] sz)) 0 0 (va_A [(a0, .inr (3, [.ref a1, .ref a2, .ref a3, .ref a4, .int gg.hs, .ref a5, .ref a6, .ref a7, .int (nI gg.L), .int (nI gg.M), .int mm.pl, .ref a8, .int mm.sd])), (a1, .inl (cI, 49, .inl gg.r)), (a2, .inl (cI, 49, .inl mm.m)), (a3, .inl (cI, 49, .inl gg.im)), (a4, .inl (cI, 49, .inl mm.ws)), (a5, .inl (cI, 96, .inl gg.lt)), (a6, .inl (cI, 16, .inl gg.rw)), (a7, .inl (cI, 7, .inl gg.rf)), (a8, .inl (cI, 3, .inl mm.nb))] sz) := by
  refine st_rwi (cc := cX4_whenFalls) (maxL := 3) (rt := .int) (by decide) rfl (Nat.le_of_ble_eq_true rfl) (fun _ _ _ => rfl) ?_
  intro p e s m below meth c Q ls A hx hb hml hts hown hP hK hD hA hS hl hret
  replace hown : s.vm.findClass RX4 = some m.cls := hown
  replace hl : lv_has ls 3 [(0, .ref a0), (1, .int p0)] := hl
  obtain ⟨H, hH⟩ : ∃ z, z = s.heap := ⟨_, rfl⟩
  obtain ⟨locs, hlo⟩ : ∃ z : List Loc, z = [] := ⟨_, rfl⟩
  replace hP : va_P D vwCl [(a0, .inr (3, [.ref a1, .ref a2, .ref a3, .ref a4, .int gg.hs, .ref a5, .ref a6, .ref a7, .int (nI gg.L), .int (nI gg.M), .int mm.pl, .ref a8, .int mm.sd])), (a1, .inl (cI, 49, .inl gg.r)), (a2, .inl (cI, 49, .inl mm.m)), (a3, .inl (cI, 49, .inl gg.im)), (a4, .inl (cI, 49, .inl mm.ws)), (a5, .inl (cI, 96, .inl gg.lt)), (a6, .inl (cI, 16, .inl gg.rw)), (a7, .inl (cI, 7, .inl gg.rf)), (a8, .inl (cI, 3, .inl mm.nb))] H := by rw [hH]; exact hP
  replace hS : va_S A s.heap H locs := by rw [hH, hlo]; exact hS
  show W p l e ({ frames := 6, cells := 0, slots := 0, locals := 132 }) s m [.ref a0, .int p0].toArray below meth c s.heap [] 0 0 Q (F0 m 0 ls [])
  rw [← hlo]
  suffices hgo : W p l e ({ frames := 6, cells := 0, slots := 0, locals := 132 }) s m [.ref a0, .int p0].toArray below meth c H locs 0 0 Q (F0 m 0 ls []) by rw [hH] at hgo; exact hgo
  clear hH hlo
  have hi_X4 : ∀ w ∈ wsX40, w ∈ wsX4_whenFalls := fun w h => List.mem_cons_of_mem _ (List.mem_append_right _ (h))
  have hk_9 := hts (.fieldLink RX4 9 "NestsOfTalkModel" "s" "[I") (List.mem_of_getElem? (i := 1) rfl)
  have hk_13 := hts (.fieldLink RX4 13 "NestsOfTalkModel" "m" "[I") (List.mem_of_getElem? (i := 2) rfl)
  have hI := hG.inv
  have hn9 := hI.le
  have hL96 := hG.L96
  have hM16 := hG.M16
  refine lv_aload_n hx hb dX4_whenFalls_0 rfl (lv_at hl 0 rfl) ?_
  refine va_get (D := D) (ci := 3) (v := .ref a1) (C := RX4) (T := TX4) (N := 13) hx hb hts hi_X4 hown hK.1 hP 0 rfl rfl 0 (by decide) hk_9 (fun _ h9 => h9) rfl dX4_whenFalls_1 ?_
  refine lv_aload_n hx hb dX4_whenFalls_4 rfl (lv_at hl 0 rfl) ?_
  refine va_get (D := D) (ci := 3) (v := .ref a2) (C := RX4) (T := TX4) (N := 13) hx hb hts hi_X4 hown hK.1 hP 0 rfl rfl 1 (by decide) hk_13 (fun _ h9 => h9) rfl dX4_whenFalls_5 ?_
  refine xw_Sv (As := [.ref a1, .ref a2]) (rest := []) (Wn := fun u => [(a0, .inr (3, [.ref a1, .ref a2, .ref a3, .ref a4, .int gg.hs, .ref a5, .ref a6, .ref a7, .int (nI gg.L), .int (nI gg.M), .int mm.pl, .ref a8, .int mm.sd])), (a1, .inl (cI, 49, .inl gg.r)), (a2, .inl (cI, 49, .inl gg.r)), (a3, .inl (cI, 49, .inl gg.im)), (a4, .inl (cI, 49, .inl mm.ws)), (a5, .inl (cI, 96, .inl gg.lt)), (a6, .inl (cI, 16, .inl gg.rw)), (a7, .inl (cI, 7, .inl gg.rf)), (a8, .inl (cI, 3, .inl mm.nb))]) (Wr := [(a0, .inr (3, [.ref a1, .ref a2, .ref a3, .ref a4, .int gg.hs, .ref a5, .ref a6, .ref a7, .int (nI gg.L), .int (nI gg.M), .int mm.pl, .ref a8, .int mm.sd])), (a3, .inl (cI, 49, .inl gg.im)), (a4, .inl (cI, 49, .inl mm.ws)), (a5, .inl (cI, 96, .inl gg.lt)), (a6, .inl (cI, 16, .inl gg.rw)), (a7, .inl (cI, 7, .inl gg.rf)), (a8, .inl (cI, 3, .inl mm.nb))]) ⟨hx, hb, hml, hown, hts⟩ (kX4_copies l D cI H.size a1 a2 gg.r mm.m) (va_cwS 2 hts gX4_whenFalls_X4_copies rfl rfl rfl hs_X4_copies ⟨Nat.le_of_ble_eq_true rfl, Nat.le_of_ble_eq_true rfl⟩) hK hP hD hS hA [1, 2] [0, 3, 4, 5, 6, 7, 8] [0, 7, 8, 1, 2, 3, 4, 5, 6] rfl rfl (by decide) (by decide) (by decide) (by decide) (fun u => rfl) rfl hl.1 rfl (Nat.le_of_ble_eq_true rfl) dX4_whenFalls_8 ⟨Nat.zero_le _, Nat.zero_le _⟩ (fun u_1 H locs hw_1 hP hD hS => ?_)
  refine lv_iconst (v := 1) hx hb dX4_whenFalls_11 (by decide) ?_
  refine lv_istore_n (lv' := [(2, .int 1), (0, .ref a0), (1, .int p0)]) hx hb dX4_whenFalls_12 rfl hl (by decide) rfl (fun ls hl => ?_)
  have lp_13_2 : ∀ (fu : Nat) (i : Nat) (x2 : Int32) (f : RR) (ls : Array Slot) (H : Heap) (locs : List Loc), 60 - i < fu → (x2 = nI (i + 1)) → (i ≤ 60) → (f = dsR gg.r gg.n i) → (∀ j, j < i → whP gg.r gg.n p0 j = false) → va_P D vwCl [(a0, .inr (3, [.ref a1, .ref a2, .ref a3, .ref a4, .int gg.hs, .ref a5, .ref a6, .ref a7, .int (nI gg.L), .int (nI gg.M), .int mm.pl, .ref a8, .int mm.sd])), (a1, .inl (cI, 49, .inl gg.r)), (a2, .inl (cI, 49, .inl f)), (a3, .inl (cI, 49, .inl gg.im)), (a4, .inl (cI, 49, .inl mm.ws)), (a5, .inl (cI, 96, .inl gg.lt)), (a6, .inl (cI, 16, .inl gg.rw)), (a7, .inl (cI, 7, .inl gg.rf)), (a8, .inl (cI, 3, .inl mm.nb))] H → va_D A [(a0, .inr (3, [.ref a1, .ref a2, .ref a3, .ref a4, .int gg.hs, .ref a5, .ref a6, .ref a7, .int (nI gg.L), .int (nI gg.M), .int mm.pl, .ref a8, .int mm.sd])), (a1, .inl (cI, 49, .inl gg.r)), (a2, .inl (cI, 49, .inl f)), (a3, .inl (cI, 49, .inl gg.im)), (a4, .inl (cI, 49, .inl mm.ws)), (a5, .inl (cI, 96, .inl gg.lt)), (a6, .inl (cI, 16, .inl gg.rw)), (a7, .inl (cI, 7, .inl gg.rf)), (a8, .inl (cI, 3, .inl mm.nb))] → va_S A s.heap H locs → lv_has ls 3 [(2, .int x2), (0, .ref a0), (1, .int p0)] → W p l e ({ frames := 6, cells := 0, slots := 0, locals := 132 }) s m [.ref a0, .int p0].toArray below meth c H locs 0 0 Q (F0 m 13 ls []) := by
    intro fu
    induction fu with
    | zero =>
      intro i x2 f ls H locs hfu
      exact absurd hfu (Nat.not_lt_zero _)
    | succ fu ih_2 =>
      intro i x2 f ls H locs hfu hx2 hi hf hj hP hD hS hl
      have hI_f : Inv gg.n f := (by rw [hf]; exact hI.idsR _)
      refine lv_iload_n hx hb dX4_whenFalls_13 rfl (lv_at hl 0 rfl) ?_
      refine lv_bipush (v := 60) hx hb dX4_whenFalls_14 (by decide) ?_
      refine lv_icmp_gt (tgt := 39) hx hb dX4_whenFalls_16 (by decide) (fun c_3 => ?_) (fun c_3 => ?_)
      · skip
        have n_3 : 60 < i + 1 := (ni_lt (a := 60) (b := i + 1) (rfl : (60 : Int32) = nI 60) hx2 (by decide) (by omega)).mp c_3
        refine lv_bipush (v := (-9)) hx hb dX4_whenFalls_39 (by decide) ?_
        exact hret 41 _ (-9) f _ _ dX4_whenFalls_41 (by have e9 : i = 60 := (by omega); rw [e9] at hj; rw [whF, ff_none hj]; rfl) hP hD hS
      have n_3 : ¬ 60 < i + 1 := fun q => c_3 ((ni_lt (a := 60) (b := i + 1) (rfl : (60 : Int32) = nI 60) hx2 (by decide) (by omega)).mpr q)
      refine lv_aload_n hx hb dX4_whenFalls_19 rfl (lv_at hl 1 rfl) ?_
      refine va_get (D := D) (ci := 3) (v := .ref a2) (C := RX4) (T := TX4) (N := 13) hx hb hts hi_X4 hown hK.1 hP 0 rfl rfl 1 (by decide) hk_13 (fun _ h9 => h9) rfl dX4_whenFalls_20 ?_
      refine xw_Si (As := [.ref a2]) (rest := []) (Wn := fun u => [(a0, .inr (3, [.ref a1, .ref a2, .ref a3, .ref a4, .int gg.hs, .ref a5, .ref a6, .ref a7, .int (nI gg.L), .int (nI gg.M), .int mm.pl, .ref a8, .int mm.sd])), (a1, .inl (cI, 49, .inl gg.r)), (a2, .inl (cI, 49, .inl u)), (a3, .inl (cI, 49, .inl gg.im)), (a4, .inl (cI, 49, .inl mm.ws)), (a5, .inl (cI, 96, .inl gg.lt)), (a6, .inl (cI, 16, .inl gg.rw)), (a7, .inl (cI, 7, .inl gg.rf)), (a8, .inl (cI, 3, .inl mm.nb))]) (Wr := [(a0, .inr (3, [.ref a1, .ref a2, .ref a3, .ref a4, .int gg.hs, .ref a5, .ref a6, .ref a7, .int (nI gg.L), .int (nI gg.M), .int mm.pl, .ref a8, .int mm.sd])), (a1, .inl (cI, 49, .inl gg.r)), (a3, .inl (cI, 49, .inl gg.im)), (a4, .inl (cI, 49, .inl mm.ws)), (a5, .inl (cI, 96, .inl gg.lt)), (a6, .inl (cI, 16, .inl gg.rw)), (a7, .inl (cI, 7, .inl gg.rf)), (a8, .inl (cI, 3, .inl mm.nb))]) ⟨hx, hb, hml, hown, hts⟩ (kX4_day l D cI H.size a2 f gg.n hI_f) (va_cwS 1 hts gX4_whenFalls_X4_day rfl rfl rfl hs_X4_day ⟨Nat.le_of_ble_eq_true rfl, Nat.le_of_ble_eq_true rfl⟩) hK hP hD hS hA [2] [0, 1, 3, 4, 5, 6, 7, 8] [0, 1, 8, 2, 3, 4, 5, 6, 7] rfl rfl (by decide) (by decide) (by decide) (by decide) (fun u => rfl) rfl hl.1 rfl (Nat.le_of_ble_eq_true rfl) dX4_whenFalls_23 ⟨Nat.zero_le _, Nat.zero_le _⟩ (fun r_4 u_4 H locs hw_4 hP hD hS => ?_)
      obtain ⟨hr_4, hu_4⟩ := hw_4
      have hI_u_4 : Inv gg.n u_4 := (by rw [hu_4]; exact hI_f.idayR)
      refine lv_iload_n hx hb dX4_whenFalls_26 rfl (lv_at hl 2 rfl) ?_
      refine lv_iand hx hb dX4_whenFalls_27 ?_
      refine lv_if_eq (tgt := 33) hx hb dX4_whenFalls_28 (by decide) (fun c_5 => ?_) (fun c_5 => ?_)
      · skip
        obtain ⟨x_6, ex_6⟩ : ∃ z : Int32, z = x2 + 1 := ⟨_, rfl⟩
        refine lv_iinc (v := x_6) (lv' := [(2, .int x_6), (0, .ref a0), (1, .int p0)]) hx hb dX4_whenFalls_33 hl (k := 0) rfl (by rw [ex_6]; rfl) (by decide) rfl (fun ls hl => ?_)
        refine lv_goto (tgt := 13) hx hb dX4_whenFalls_36 (by decide) ?_
        exact ih_2 (i + 1) x_6 u_4 _ _ _ (by omega) (ni_add (a := i + 1) (b := 1) ex_6 hx2 (rfl : (1 : Int32) = nI 1)) (by omega) (by rw [dsR, ← hf]; exact hu_4) (lt_s hj (by rw [whP, ← hf, ← hr_4]; simp [c_5])) hP hD hS (lv_sub hl [0, 1, 2] rfl)
      refine lv_iload_n hx hb dX4_whenFalls_31 rfl (lv_at hl 0 rfl) ?_
      exact hret 32 _ x2 u_4 _ _ dX4_whenFalls_32 (by have e9 : ff (whP gg.r gg.n p0) 60 = i := ff_eq (by omega) (by rw [whP, ← hf, ← hr_4]; simp [c_5]) hj; rw [whF, e9, if_pos (by omega)]; exact hx2) hP hD hS
  exact lp_13_2 ((60 - 0) + 1) 0 1 gg.r _ _ _ (by omega) (rfl : (1 : Int32) = nI 1) (by omega) rfl (fun j hj => absurd hj (Nat.not_lt_zero _)) hP hD hS (lv_sub hl [0, 1, 2] rfl)

set_option maxHeartbeats 4000000 in
set_option maxRecDepth 100000 in
theorem kX4_falls (l : Launch) (D : va_G) (cI : ClassId) (sz : Nat) (a0 a1 a2 a3 a4 a5 a6 a7 a8 : Nat) (gg : GG) (mm : MS) (hG : Good gg) (p0 : Int32) : Met l yX4_falls wsX4_falls ({ frames := 7, cells := 0, slots := 0, locals := 154 }) (PRW D cI [.ref a0, .int p0] [(a0, .inr (3, [.ref a1, .ref a2, .ref a3, .ref a4, .int gg.hs, .ref a5, .ref a6, .ref a7, .int (nI gg.L), .int (nI gg.M), .int mm.pl, .ref a8, .int mm.sd])), (a1, .inl (cI, 49, .inl gg.r)), (a2, .inl (cI, 49, .inl mm.m)), (a3, .inl (cI, 49, .inl gg.im)), (a4, .inl (cI, 49, .inl mm.ws)), (a5, .inl (cI, 96, .inl gg.lt)), (a6, .inl (cI, 16, .inl gg.rw)), (a7, .inl (cI, 7, .inl gg.rf)), (a8, .inl (cI, 3, .inl mm.nb))] sz) (va_Qi (S := GG × MS) (fun v u => (v, u.1) = sp_falls gg p0) (BRW D [(a0, .inr (3, [.ref a1, .ref a2, .ref a3, .ref a4, .int gg.hs, .ref a5, .ref a6, .ref a7, .int (nI gg.L), .int (nI gg.M), .int mm.pl, .ref a8, .int mm.sd])), (a1, .inl (cI, 49, .inl gg.r)), (a2, .inl (cI, 49, .inl mm.m)), (a3, .inl (cI, 49, .inl gg.im)), (a4, .inl (cI, 49, .inl mm.ws)), (a5, .inl (cI, 96, .inl gg.lt)), (a6, .inl (cI, 16, .inl gg.rw)), (a7, .inl (cI, 7, .inl gg.rf)), (a8, .inl (cI, 3, .inl mm.nb))] sz (fun u => [(a0, .inr (3, [.ref a1, .ref a2, .ref a3, .ref a4, .int u.1.hs, .ref a5, .ref a6, .ref a7, .int (nI u.1.L), .int (nI u.1.M), .int u.2.pl, .ref a8, .int u.2.sd])), (a1, .inl (cI, 49, .inl u.1.r)), (a2, .inl (cI, 49, .inl u.2.m)), (a3, .inl (cI, 49, .inl u.1.im)), (a4, .inl (cI, 49, .inl u.2.ws)), (a5, .inl (cI, 96, .inl u.1.lt)), (a6, .inl (cI, 16, .inl u.1.rw)), (a7, .inl (cI, 7, .inl u.1.rf)), (a8, .inl (cI, 3, .inl u.2.nb))])) (va_A [(a0, .inr (3, [.ref a1, .ref a2, .ref a3, .ref a4, .int gg.hs, .ref a5, .ref a6, .ref a7, .int (nI gg.L), .int (nI gg.M), .int mm.pl, .ref a8, .int mm.sd])), (a1, .inl (cI, 49, .inl gg.r)), (a2, .inl (cI, 49, .inl mm.m)), (a3, .inl (cI, 49, .inl gg.im)), (a4, .inl (cI, 49, .inl mm.ws)), (a5, .inl (cI, 96, .inl gg.lt)), (a6, .inl (cI, 16, .inl gg.rw)), (a7, .inl (cI, 7, .inl gg.rf)), (a8, .inl (cI, 3, .inl mm.nb))] sz)) 0 0 (va_A [(a0, .inr (3, [.ref a1, .ref a2, .ref a3, .ref a4, .int gg.hs, .ref a5, .ref a6, .ref a7, .int (nI gg.L), .int (nI gg.M), .int mm.pl, .ref a8, .int mm.sd])), (a1, .inl (cI, 49, .inl gg.r)), (a2, .inl (cI, 49, .inl mm.m)), (a3, .inl (cI, 49, .inl gg.im)), (a4, .inl (cI, 49, .inl mm.ws)), (a5, .inl (cI, 96, .inl gg.lt)), (a6, .inl (cI, 16, .inl gg.rw)), (a7, .inl (cI, 7, .inl gg.rf)), (a8, .inl (cI, 3, .inl mm.nb))] sz) := by
  refine st_rwi (cc := cX4_falls) (maxL := 2) (rt := .int) (by decide) rfl (Nat.le_of_ble_eq_true rfl) (fun _ _ _ => rfl) ?_
  intro p e s m below meth c Q ls A hx hb hml hts hown hP hK hD hA hS hl hret
  replace hown : s.vm.findClass RX4 = some m.cls := hown
  replace hl : lv_has ls 2 [(0, .ref a0), (1, .int p0)] := hl
  obtain ⟨H, hH⟩ : ∃ z, z = s.heap := ⟨_, rfl⟩
  obtain ⟨locs, hlo⟩ : ∃ z : List Loc, z = [] := ⟨_, rfl⟩
  replace hP : va_P D vwCl [(a0, .inr (3, [.ref a1, .ref a2, .ref a3, .ref a4, .int gg.hs, .ref a5, .ref a6, .ref a7, .int (nI gg.L), .int (nI gg.M), .int mm.pl, .ref a8, .int mm.sd])), (a1, .inl (cI, 49, .inl gg.r)), (a2, .inl (cI, 49, .inl mm.m)), (a3, .inl (cI, 49, .inl gg.im)), (a4, .inl (cI, 49, .inl mm.ws)), (a5, .inl (cI, 96, .inl gg.lt)), (a6, .inl (cI, 16, .inl gg.rw)), (a7, .inl (cI, 7, .inl gg.rf)), (a8, .inl (cI, 3, .inl mm.nb))] H := by rw [hH]; exact hP
  replace hS : va_S A s.heap H locs := by rw [hH, hlo]; exact hS
  show W p l e ({ frames := 7, cells := 0, slots := 0, locals := 154 }) s m [.ref a0, .int p0].toArray below meth c s.heap [] 0 0 Q (F0 m 0 ls [])
  rw [← hlo]
  suffices hgo : W p l e ({ frames := 7, cells := 0, slots := 0, locals := 154 }) s m [.ref a0, .int p0].toArray below meth c H locs 0 0 Q (F0 m 0 ls []) by rw [hH] at hgo; exact hgo
  clear hH hlo
  have hI := hG.inv
  have hn9 := hI.le
  have hL96 := hG.L96
  have hM16 := hG.M16
  refine lv_iload_n hx hb dX4_falls_0 rfl (lv_at hl 1 rfl) ?_
  refine xc_Si (As := [.int p0]) (rest := []) ⟨hx, hb, hml, hown, hts⟩ (kX4_isWoman l D cI p0) (va_cwS 1 hts gX4_falls_X4_isWoman rfl rfl rfl hs_X4_isWoman ⟨Nat.le_of_ble_eq_true rfl, Nat.le_of_ble_eq_true rfl⟩) hK hP [] rfl rfl hl.1 rfl (Nat.le_of_ble_eq_true rfl) dX4_falls_1 ⟨Nat.zero_le _, Nat.zero_le _⟩ (fun r_1 hr_1 => ?_)
  refine lv_if_eq (tgt := 17) hx hb dX4_falls_4 (by decide) (fun c_2 => ?_) (fun c_2 => ?_)
  · skip
    have hb_2 : womB p0 = false := bool_f hr_1 c_2
    refine lv_aload_n hx hb dX4_falls_17 rfl (lv_at hl 0 rfl) ?_
    refine lv_iconst (v := (-1)) hx hb dX4_falls_18 (by decide) ?_
    refine xw_Vi (As := [.int (-1)]) (rest := []) (Wn := fun u => [(a0, .inr (3, [.ref a1, .ref a2, .ref a3, .ref a4, .int gg.hs, .ref a5, .ref a6, .ref a7, .int (nI gg.L), .int (nI gg.M), .int mm.pl, .ref a8, .int mm.sd])), (a1, .inl (cI, 49, .inl gg.r)), (a2, .inl (cI, 49, .inl mm.m)), (a3, .inl (cI, 49, .inl gg.im)), (a4, .inl (cI, 49, .inl mm.ws)), (a5, .inl (cI, 96, .inl gg.lt)), (a6, .inl (cI, 16, .inl gg.rw)), (a7, .inl (cI, 7, .inl (upd gg.rf (cN (-1)) (gg.rf (cN (-1)) + 1)))), (a8, .inl (cI, 3, .inl mm.nb))]) (Wr := [(a1, .inl (cI, 49, .inl gg.r)), (a2, .inl (cI, 49, .inl mm.m)), (a3, .inl (cI, 49, .inl gg.im)), (a4, .inl (cI, 49, .inl mm.ws)), (a5, .inl (cI, 96, .inl gg.lt)), (a6, .inl (cI, 16, .inl gg.rw)), (a8, .inl (cI, 3, .inl mm.nb))]) ⟨hx, hb, hml, hown, hts⟩ (kX4_no l D cI H.size a0 a1 a2 a3 a4 a5 a6 a7 a8 gg mm (-1) okc_1) (cwV 1 hts gX4_falls_X4_no rfl rfl rfl hv_X4_no ⟨Nat.le_of_ble_eq_true rfl, Nat.le_of_ble_eq_true rfl⟩) hK hP hD hS hA [0, 7] [1, 2, 3, 4, 5, 6, 8] [7, 0, 1, 2, 3, 4, 5, 8, 6] rfl rfl (by decide) (by decide) (by decide) (by decide) (fun u => rfl) 0 rfl rfl rfl hl.1 rfl (Nat.le_of_ble_eq_true rfl) dX4_falls_19 ⟨Nat.zero_le _, Nat.zero_le _⟩ (fun r_3 u_3 H locs hw_3 hP hD hS => ?_)
    exact hret 22 _ r_3 ((gg.n, gg.r, gg.m, gg.im, gg.hs, gg.lt, gg.L, gg.rw, gg.M, (upd gg.rf (cN (-1)) (gg.rf (cN (-1)) + 1))), mm) _ _ dX4_falls_22 (by first | (simp [sp_falls, rfz, us, c_2, hb_2, hw_3]; done) | (simp [sp_falls, rfz, us, c_2, hb_2, hw_3, isI]; done) | (simp [sp_falls, rfz, us, c_2, hb_2, hw_3, wrB, lackF]; done)) hP hD hS
  have hb_2 : womB p0 = true := bool_t hr_1 c_2
  obtain ⟨w_2, hw_2, ew_2⟩ := womB_iff.1 hb_2
  refine lv_aload_n hx hb dX4_falls_7 rfl (lv_at hl 0 rfl) ?_
  refine lv_iconst (v := 1) hx hb dX4_falls_8 (by decide) ?_
  refine lv_iload_n hx hb dX4_falls_9 rfl (lv_at hl 1 rfl) ?_
  refine lv_ishl hx hb dX4_falls_10 ?_
  refine xw_Vi (As := [.int (1 <<< (p0 &&& 31))]) (rest := []) (Wn := fun u => [(a0, .inr (3, [.ref a1, .ref a2, .ref a3, .ref a4, .int gg.hs, .ref a5, .ref a6, .ref a7, .int (nI gg.L), .int (nI gg.M), .int mm.pl, .ref a8, .int mm.sd])), (a1, .inl (cI, 49, .inl gg.r)), (a2, .inl (cI, 49, .inl u)), (a3, .inl (cI, 49, .inl gg.im)), (a4, .inl (cI, 49, .inl mm.ws)), (a5, .inl (cI, 96, .inl gg.lt)), (a6, .inl (cI, 16, .inl gg.rw)), (a7, .inl (cI, 7, .inl gg.rf)), (a8, .inl (cI, 3, .inl mm.nb))]) (Wr := []) ⟨hx, hb, hml, hown, hts⟩ (kX4_whenFalls l D cI H.size a0 a1 a2 a3 a4 a5 a6 a7 a8 gg mm hG (1 <<< (p0 &&& 31))) (cwV 1 hts gX4_falls_X4_whenFalls rfl rfl rfl hv_X4_whenFalls ⟨Nat.le_of_ble_eq_true rfl, Nat.le_of_ble_eq_true rfl⟩) hK hP hD hS hA [0, 1, 2, 3, 4, 5, 6, 7, 8] [] [0, 1, 2, 3, 4, 5, 6, 7, 8] rfl rfl (by decide) (by decide) (by decide) (by decide) (fun u => rfl) 0 rfl rfl rfl hl.1 rfl (Nat.le_of_ble_eq_true rfl) dX4_falls_11 ⟨Nat.zero_le _, Nat.zero_le _⟩ (fun r_4 u_4 H locs hw_4 hP hD hS => ?_)
  refine lv_goto (tgt := 22) hx hb dX4_falls_14 (by decide) ?_
  exact hret 22 _ r_4 (gg, (u_4, mm.ws, mm.nb, mm.pl, mm.sd)) _ _ dX4_falls_22 (by first | (simp [sp_falls, rfz, us, c_2, hb_2, hw_4]; done) | (simp [sp_falls, rfz, us, c_2, hb_2, hw_4, isI]; done) | (simp [sp_falls, rfz, us, c_2, hb_2, hw_4, wrB, lackF]; done)) hP hD hS

set_option maxHeartbeats 4000000 in
set_option maxRecDepth 100000 in
theorem kX4_still (l : Launch) (D : va_G) (cI : ClassId) (sz : Nat) (a0 a1 a2 a3 a4 a5 a6 a7 a8 : Nat) (gg : GG) (mm : MS) (hG : Good gg) : Met l yX4_still wsX4_still ({ frames := 6, cells := 0, slots := 0, locals := 132 }) (PRW D cI [.ref a0] [(a0, .inr (3, [.ref a1, .ref a2, .ref a3, .ref a4, .int gg.hs, .ref a5, .ref a6, .ref a7, .int (nI gg.L), .int (nI gg.M), .int mm.pl, .ref a8, .int mm.sd])), (a1, .inl (cI, 49, .inl gg.r)), (a2, .inl (cI, 49, .inl mm.m)), (a3, .inl (cI, 49, .inl gg.im)), (a4, .inl (cI, 49, .inl mm.ws)), (a5, .inl (cI, 96, .inl gg.lt)), (a6, .inl (cI, 16, .inl gg.rw)), (a7, .inl (cI, 7, .inl gg.rf)), (a8, .inl (cI, 3, .inl mm.nb))] sz) (va_Qi (S := RR) (fun v _ => v = stF gg.r gg.n) (BRW D [(a0, .inr (3, [.ref a1, .ref a2, .ref a3, .ref a4, .int gg.hs, .ref a5, .ref a6, .ref a7, .int (nI gg.L), .int (nI gg.M), .int mm.pl, .ref a8, .int mm.sd])), (a1, .inl (cI, 49, .inl gg.r)), (a2, .inl (cI, 49, .inl mm.m)), (a3, .inl (cI, 49, .inl gg.im)), (a4, .inl (cI, 49, .inl mm.ws)), (a5, .inl (cI, 96, .inl gg.lt)), (a6, .inl (cI, 16, .inl gg.rw)), (a7, .inl (cI, 7, .inl gg.rf)), (a8, .inl (cI, 3, .inl mm.nb))] sz (fun u => [(a0, .inr (3, [.ref a1, .ref a2, .ref a3, .ref a4, .int gg.hs, .ref a5, .ref a6, .ref a7, .int (nI gg.L), .int (nI gg.M), .int mm.pl, .ref a8, .int mm.sd])), (a1, .inl (cI, 49, .inl gg.r)), (a2, .inl (cI, 49, .inl u)), (a3, .inl (cI, 49, .inl gg.im)), (a4, .inl (cI, 49, .inl mm.ws)), (a5, .inl (cI, 96, .inl gg.lt)), (a6, .inl (cI, 16, .inl gg.rw)), (a7, .inl (cI, 7, .inl gg.rf)), (a8, .inl (cI, 3, .inl mm.nb))])) (va_A [(a0, .inr (3, [.ref a1, .ref a2, .ref a3, .ref a4, .int gg.hs, .ref a5, .ref a6, .ref a7, .int (nI gg.L), .int (nI gg.M), .int mm.pl, .ref a8, .int mm.sd])), (a1, .inl (cI, 49, .inl gg.r)), (a2, .inl (cI, 49, .inl mm.m)), (a3, .inl (cI, 49, .inl gg.im)), (a4, .inl (cI, 49, .inl mm.ws)), (a5, .inl (cI, 96, .inl gg.lt)), (a6, .inl (cI, 16, .inl gg.rw)), (a7, .inl (cI, 7, .inl gg.rf)), (a8, .inl (cI, 3, .inl mm.nb))] sz)) 0 0 (va_A [(a0, .inr (3, [.ref a1, .ref a2, .ref a3, .ref a4, .int gg.hs, .ref a5, .ref a6, .ref a7, .int (nI gg.L), .int (nI gg.M), .int mm.pl, .ref a8, .int mm.sd])), (a1, .inl (cI, 49, .inl gg.r)), (a2, .inl (cI, 49, .inl mm.m)), (a3, .inl (cI, 49, .inl gg.im)), (a4, .inl (cI, 49, .inl mm.ws)), (a5, .inl (cI, 96, .inl gg.lt)), (a6, .inl (cI, 16, .inl gg.rw)), (a7, .inl (cI, 7, .inl gg.rf)), (a8, .inl (cI, 3, .inl mm.nb))] sz) := by
  refine st_rwi (cc := cX4_still) (maxL := 4) (rt := .int) (by decide) rfl (Nat.le_of_ble_eq_true rfl) (fun _ _ _ => rfl) ?_
  intro p e s m below meth c Q ls A hx hb hml hts hown hP hK hD hA hS hl hret
  replace hown : s.vm.findClass RX4 = some m.cls := hown
  replace hl : lv_has ls 4 [(0, .ref a0)] := hl
  obtain ⟨H, hH⟩ : ∃ z, z = s.heap := ⟨_, rfl⟩
  obtain ⟨locs, hlo⟩ : ∃ z : List Loc, z = [] := ⟨_, rfl⟩
  replace hP : va_P D vwCl [(a0, .inr (3, [.ref a1, .ref a2, .ref a3, .ref a4, .int gg.hs, .ref a5, .ref a6, .ref a7, .int (nI gg.L), .int (nI gg.M), .int mm.pl, .ref a8, .int mm.sd])), (a1, .inl (cI, 49, .inl gg.r)), (a2, .inl (cI, 49, .inl mm.m)), (a3, .inl (cI, 49, .inl gg.im)), (a4, .inl (cI, 49, .inl mm.ws)), (a5, .inl (cI, 96, .inl gg.lt)), (a6, .inl (cI, 16, .inl gg.rw)), (a7, .inl (cI, 7, .inl gg.rf)), (a8, .inl (cI, 3, .inl mm.nb))] H := by rw [hH]; exact hP
  replace hS : va_S A s.heap H locs := by rw [hH, hlo]; exact hS
  show W p l e ({ frames := 6, cells := 0, slots := 0, locals := 132 }) s m [.ref a0].toArray below meth c s.heap [] 0 0 Q (F0 m 0 ls [])
  rw [← hlo]
  suffices hgo : W p l e ({ frames := 6, cells := 0, slots := 0, locals := 132 }) s m [.ref a0].toArray below meth c H locs 0 0 Q (F0 m 0 ls []) by rw [hH] at hgo; exact hgo
  clear hH hlo
  have hi_X4 : ∀ w ∈ wsX40, w ∈ wsX4_still := fun w h => List.mem_cons_of_mem _ (List.mem_append_right _ (h))
  have hk_9 := hts (.fieldLink RX4 9 "NestsOfTalkModel" "s" "[I") (List.mem_of_getElem? (i := 1) rfl)
  have hk_13 := hts (.fieldLink RX4 13 "NestsOfTalkModel" "m" "[I") (List.mem_of_getElem? (i := 2) rfl)
  have hI := hG.inv
  have hn9 := hI.le
  have hL96 := hG.L96
  have hM16 := hG.M16
  refine lv_aload_n hx hb dX4_still_0 rfl (lv_at hl 0 rfl) ?_
  refine va_get (D := D) (ci := 3) (v := .ref a1) (C := RX4) (T := TX4) (N := 13) hx hb hts hi_X4 hown hK.1 hP 0 rfl rfl 0 (by decide) hk_9 (fun _ h9 => h9) rfl dX4_still_1 ?_
  refine lv_aload_n hx hb dX4_still_4 rfl (lv_at hl 0 rfl) ?_
  refine va_get (D := D) (ci := 3) (v := .ref a2) (C := RX4) (T := TX4) (N := 13) hx hb hts hi_X4 hown hK.1 hP 0 rfl rfl 1 (by decide) hk_13 (fun _ h9 => h9) rfl dX4_still_5 ?_
  refine xw_Sv (As := [.ref a1, .ref a2]) (rest := []) (Wn := fun u => [(a0, .inr (3, [.ref a1, .ref a2, .ref a3, .ref a4, .int gg.hs, .ref a5, .ref a6, .ref a7, .int (nI gg.L), .int (nI gg.M), .int mm.pl, .ref a8, .int mm.sd])), (a1, .inl (cI, 49, .inl gg.r)), (a2, .inl (cI, 49, .inl gg.r)), (a3, .inl (cI, 49, .inl gg.im)), (a4, .inl (cI, 49, .inl mm.ws)), (a5, .inl (cI, 96, .inl gg.lt)), (a6, .inl (cI, 16, .inl gg.rw)), (a7, .inl (cI, 7, .inl gg.rf)), (a8, .inl (cI, 3, .inl mm.nb))]) (Wr := [(a0, .inr (3, [.ref a1, .ref a2, .ref a3, .ref a4, .int gg.hs, .ref a5, .ref a6, .ref a7, .int (nI gg.L), .int (nI gg.M), .int mm.pl, .ref a8, .int mm.sd])), (a3, .inl (cI, 49, .inl gg.im)), (a4, .inl (cI, 49, .inl mm.ws)), (a5, .inl (cI, 96, .inl gg.lt)), (a6, .inl (cI, 16, .inl gg.rw)), (a7, .inl (cI, 7, .inl gg.rf)), (a8, .inl (cI, 3, .inl mm.nb))]) ⟨hx, hb, hml, hown, hts⟩ (kX4_copies l D cI H.size a1 a2 gg.r mm.m) (va_cwS 2 hts gX4_still_X4_copies rfl rfl rfl hs_X4_copies ⟨Nat.le_of_ble_eq_true rfl, Nat.le_of_ble_eq_true rfl⟩) hK hP hD hS hA [1, 2] [0, 3, 4, 5, 6, 7, 8] [0, 7, 8, 1, 2, 3, 4, 5, 6] rfl rfl (by decide) (by decide) (by decide) (by decide) (fun u => rfl) rfl hl.1 rfl (Nat.le_of_ble_eq_true rfl) dX4_still_8 ⟨Nat.zero_le _, Nat.zero_le _⟩ (fun u_1 H locs hw_1 hP hD hS => ?_)
  refine lv_iconst (v := 0) hx hb dX4_still_11 (by decide) ?_
  refine lv_istore_n (lv' := [(1, .int 0), (0, .ref a0)]) hx hb dX4_still_12 rfl hl (by decide) rfl (fun ls hl => ?_)
  have lp_13_2 : ∀ (fu : Nat) (i : Nat) (x1 : Int32) (f : RR) (ls : Array Slot) (H : Heap) (locs : List Loc), 61 - i < fu → (x1 = nI i) → (i ≤ 61) → (f = dsR gg.r gg.n i) → (∀ j, j < i → stP gg.r gg.n j = false) → va_P D vwCl [(a0, .inr (3, [.ref a1, .ref a2, .ref a3, .ref a4, .int gg.hs, .ref a5, .ref a6, .ref a7, .int (nI gg.L), .int (nI gg.M), .int mm.pl, .ref a8, .int mm.sd])), (a1, .inl (cI, 49, .inl gg.r)), (a2, .inl (cI, 49, .inl f)), (a3, .inl (cI, 49, .inl gg.im)), (a4, .inl (cI, 49, .inl mm.ws)), (a5, .inl (cI, 96, .inl gg.lt)), (a6, .inl (cI, 16, .inl gg.rw)), (a7, .inl (cI, 7, .inl gg.rf)), (a8, .inl (cI, 3, .inl mm.nb))] H → va_D A [(a0, .inr (3, [.ref a1, .ref a2, .ref a3, .ref a4, .int gg.hs, .ref a5, .ref a6, .ref a7, .int (nI gg.L), .int (nI gg.M), .int mm.pl, .ref a8, .int mm.sd])), (a1, .inl (cI, 49, .inl gg.r)), (a2, .inl (cI, 49, .inl f)), (a3, .inl (cI, 49, .inl gg.im)), (a4, .inl (cI, 49, .inl mm.ws)), (a5, .inl (cI, 96, .inl gg.lt)), (a6, .inl (cI, 16, .inl gg.rw)), (a7, .inl (cI, 7, .inl gg.rf)), (a8, .inl (cI, 3, .inl mm.nb))] → va_S A s.heap H locs → lv_has ls 4 [(1, .int x1), (0, .ref a0)] → W p l e ({ frames := 6, cells := 0, slots := 0, locals := 132 }) s m [.ref a0].toArray below meth c H locs 0 0 Q (F0 m 13 ls []) := by
    intro fu
    induction fu with
    | zero =>
      intro i x1 f ls H locs hfu
      exact absurd hfu (Nat.not_lt_zero _)
    | succ fu ih_2 =>
      intro i x1 f ls H locs hfu hx1 hi hf hj hP hD hS hl
      have hI_f : Inv gg.n f := (by rw [hf]; exact hI.idsR _)
      refine lv_iload_n hx hb dX4_still_13 rfl (lv_at hl 0 rfl) ?_
      refine lv_bipush (v := 60) hx hb dX4_still_14 (by decide) ?_
      refine lv_icmp_gt (tgt := 54) hx hb dX4_still_16 (by decide) (fun c_3 => ?_) (fun c_3 => ?_)
      · skip
        have n_3 : 60 < i := (ni_lt (a := 60) (b := i) (rfl : (60 : Int32) = nI 60) hx1 (by decide) (by omega)).mp c_3
        refine lv_bipush (v := (-9)) hx hb dX4_still_54 (by decide) ?_
        exact hret 56 _ (-9) f _ _ dX4_still_56 (by have e9 : i = 61 := (by omega); rw [e9] at hj; rw [stF, ff_none hj]; rfl) hP hD hS
      have n_3 : ¬ 60 < i := fun q => c_3 ((ni_lt (a := 60) (b := i) (rfl : (60 : Int32) = nI 60) hx1 (by decide) (by omega)).mpr q)
      refine lv_aload_n hx hb dX4_still_19 rfl (lv_at hl 1 rfl) ?_
      refine va_get (D := D) (ci := 3) (v := .ref a2) (C := RX4) (T := TX4) (N := 13) hx hb hts hi_X4 hown hK.1 hP 0 rfl rfl 1 (by decide) hk_13 (fun _ h9 => h9) rfl dX4_still_20 ?_
      refine xc_Si (As := [.ref a2]) (rest := []) ⟨hx, hb, hml, hown, hts⟩ (kX4_inNests l D cI a2 f gg.n hI_f) (va_cwS 1 hts gX4_still_X4_inNests rfl rfl rfl hs_X4_inNests ⟨Nat.le_of_ble_eq_true rfl, Nat.le_of_ble_eq_true rfl⟩) hK hP [2] rfl rfl hl.1 rfl (Nat.le_of_ble_eq_true rfl) dX4_still_23 ⟨Nat.zero_le _, Nat.zero_le _⟩ (fun r_4 hr_4 => ?_)
      refine lv_istore_n (lv' := [(2, .int r_4), (1, .int x1), (0, .ref a0)]) hx hb dX4_still_26 rfl hl (by decide) rfl (fun ls hl => ?_)
      refine lv_aload_n hx hb dX4_still_27 rfl (lv_at hl 2 rfl) ?_
      refine va_get (D := D) (ci := 3) (v := .ref a2) (C := RX4) (T := TX4) (N := 13) hx hb hts hi_X4 hown hK.1 hP 0 rfl rfl 1 (by decide) hk_13 (fun _ h9 => h9) rfl dX4_still_28 ?_
      refine xw_Si (As := [.ref a2]) (rest := []) (Wn := fun u => [(a0, .inr (3, [.ref a1, .ref a2, .ref a3, .ref a4, .int gg.hs, .ref a5, .ref a6, .ref a7, .int (nI gg.L), .int (nI gg.M), .int mm.pl, .ref a8, .int mm.sd])), (a1, .inl (cI, 49, .inl gg.r)), (a2, .inl (cI, 49, .inl u)), (a3, .inl (cI, 49, .inl gg.im)), (a4, .inl (cI, 49, .inl mm.ws)), (a5, .inl (cI, 96, .inl gg.lt)), (a6, .inl (cI, 16, .inl gg.rw)), (a7, .inl (cI, 7, .inl gg.rf)), (a8, .inl (cI, 3, .inl mm.nb))]) (Wr := [(a0, .inr (3, [.ref a1, .ref a2, .ref a3, .ref a4, .int gg.hs, .ref a5, .ref a6, .ref a7, .int (nI gg.L), .int (nI gg.M), .int mm.pl, .ref a8, .int mm.sd])), (a1, .inl (cI, 49, .inl gg.r)), (a3, .inl (cI, 49, .inl gg.im)), (a4, .inl (cI, 49, .inl mm.ws)), (a5, .inl (cI, 96, .inl gg.lt)), (a6, .inl (cI, 16, .inl gg.rw)), (a7, .inl (cI, 7, .inl gg.rf)), (a8, .inl (cI, 3, .inl mm.nb))]) ⟨hx, hb, hml, hown, hts⟩ (kX4_day l D cI H.size a2 f gg.n hI_f) (va_cwS 1 hts gX4_still_X4_day rfl rfl rfl hs_X4_day ⟨Nat.le_of_ble_eq_true rfl, Nat.le_of_ble_eq_true rfl⟩) hK hP hD hS hA [2] [0, 1, 3, 4, 5, 6, 7, 8] [0, 1, 8, 2, 3, 4, 5, 6, 7] rfl rfl (by decide) (by decide) (by decide) (by decide) (fun u => rfl) rfl hl.1 rfl (Nat.le_of_ble_eq_true rfl) dX4_still_31 ⟨Nat.zero_le _, Nat.zero_le _⟩ (fun r_5 u_5 H locs hw_5 hP hD hS => ?_)
      obtain ⟨hr_5, hu_5⟩ := hw_5
      have hI_u_5 : Inv gg.n u_5 := (by rw [hu_5]; exact hI_f.idayR)
      refine lv_istore_n (lv' := [(3, .int r_5), (2, .int r_4), (1, .int x1), (0, .ref a0)]) hx hb dX4_still_34 rfl hl (by decide) rfl (fun ls hl => ?_)
      refine lv_aload_n hx hb dX4_still_35 rfl (lv_at hl 3 rfl) ?_
      refine va_get (D := D) (ci := 3) (v := .ref a2) (C := RX4) (T := TX4) (N := 13) hx hb hts hi_X4 hown hK.1 hP 0 rfl rfl 1 (by decide) hk_13 (fun _ h9 => h9) rfl dX4_still_36 ?_
      refine xc_Si (As := [.ref a2]) (rest := []) ⟨hx, hb, hml, hown, hts⟩ (kX4_inNests l D cI a2 u_5 gg.n hI_u_5) (va_cwS 1 hts gX4_still_X4_inNests rfl rfl rfl hs_X4_inNests ⟨Nat.le_of_ble_eq_true rfl, Nat.le_of_ble_eq_true rfl⟩) hK hP [2] rfl rfl hl.1 rfl (Nat.le_of_ble_eq_true rfl) dX4_still_39 ⟨Nat.zero_le _, Nat.zero_le _⟩ (fun r_6 hr_6 => ?_)
      refine lv_iload_n hx hb dX4_still_42 rfl (lv_at hl 1 rfl) ?_
      refine lv_icmp_ne (tgt := 48) hx hb dX4_still_43 (by decide) (fun c_7 => ?_) (fun c_7 => ?_)
      · skip
        obtain ⟨x_8, ex_8⟩ : ∃ z : Int32, z = x1 + 1 := ⟨_, rfl⟩
        refine lv_iinc (v := x_8) (lv' := [(1, .int x_8), (3, .int r_5), (2, .int r_4), (0, .ref a0)]) hx hb dX4_still_48 hl (k := 2) rfl (by rw [ex_8]; rfl) (by decide) rfl (fun ls hl => ?_)
        refine lv_goto (tgt := 13) hx hb dX4_still_51 (by decide) ?_
        exact ih_2 (i + 1) x_8 u_5 _ _ _ (by omega) (ni_add (a := i) (b := 1) ex_8 hx1 (rfl : (1 : Int32) = nI 1)) (by omega) (by rw [dsR, ← hf]; exact hu_5) (lt_s hj (by rw [stP, dsR, ← hf, ← hu_5]; rw [hr_6, hr_4] at c_7; simp [c_7])) hP hD hS (lv_sub hl [0, 3] rfl)
      refine lv_iload_n hx hb dX4_still_46 rfl (lv_at hl 2 rfl) ?_
      exact hret 47 _ x1 u_5 _ _ dX4_still_47 (by have e9 : ff (stP gg.r gg.n) 61 = i := ff_eq (by omega) (by rw [stP, dsR, ← hf, ← hu_5]; rw [hr_6, hr_4] at c_7; simp [c_7]) hj; rw [stF, e9, if_pos (by omega)]; exact hx1) hP hD hS
  exact lp_13_2 ((61 - 0) + 1) 0 0 gg.r _ _ _ (by omega) (rfl : (0 : Int32) = nI 0) (by omega) rfl (fun j hj => absurd hj (Nat.not_lt_zero _)) hP hD hS (lv_sub hl [0, 1] rfl)

set_option maxHeartbeats 4000000 in
set_option maxRecDepth 100000 in
theorem kX4_first (l : Launch) (D : va_G) (cI : ClassId) (sz : Nat) (a0 a1 a2 a3 a4 a5 a6 a7 a8 : Nat) (gg : GG) (mm : MS) (hG : Good gg) (p0 : Int32) : Met l yX4_first wsX4_first ({ frames := 7, cells := 0, slots := 0, locals := 155 }) (PRW D cI [.ref a0, .int p0] [(a0, .inr (3, [.ref a1, .ref a2, .ref a3, .ref a4, .int gg.hs, .ref a5, .ref a6, .ref a7, .int (nI gg.L), .int (nI gg.M), .int mm.pl, .ref a8, .int mm.sd])), (a1, .inl (cI, 49, .inl gg.r)), (a2, .inl (cI, 49, .inl mm.m)), (a3, .inl (cI, 49, .inl gg.im)), (a4, .inl (cI, 49, .inl mm.ws)), (a5, .inl (cI, 96, .inl gg.lt)), (a6, .inl (cI, 16, .inl gg.rw)), (a7, .inl (cI, 7, .inl gg.rf)), (a8, .inl (cI, 3, .inl mm.nb))] sz) (va_Qi (S := GG × MS) (fun v u => (v, u.1) = sp_first gg p0) (BRW D [(a0, .inr (3, [.ref a1, .ref a2, .ref a3, .ref a4, .int gg.hs, .ref a5, .ref a6, .ref a7, .int (nI gg.L), .int (nI gg.M), .int mm.pl, .ref a8, .int mm.sd])), (a1, .inl (cI, 49, .inl gg.r)), (a2, .inl (cI, 49, .inl mm.m)), (a3, .inl (cI, 49, .inl gg.im)), (a4, .inl (cI, 49, .inl mm.ws)), (a5, .inl (cI, 96, .inl gg.lt)), (a6, .inl (cI, 16, .inl gg.rw)), (a7, .inl (cI, 7, .inl gg.rf)), (a8, .inl (cI, 3, .inl mm.nb))] sz (fun u => [(a0, .inr (3, [.ref a1, .ref a2, .ref a3, .ref a4, .int u.1.hs, .ref a5, .ref a6, .ref a7, .int (nI u.1.L), .int (nI u.1.M), .int u.2.pl, .ref a8, .int u.2.sd])), (a1, .inl (cI, 49, .inl u.1.r)), (a2, .inl (cI, 49, .inl u.2.m)), (a3, .inl (cI, 49, .inl u.1.im)), (a4, .inl (cI, 49, .inl u.2.ws)), (a5, .inl (cI, 96, .inl u.1.lt)), (a6, .inl (cI, 16, .inl u.1.rw)), (a7, .inl (cI, 7, .inl u.1.rf)), (a8, .inl (cI, 3, .inl u.2.nb))])) (va_A [(a0, .inr (3, [.ref a1, .ref a2, .ref a3, .ref a4, .int gg.hs, .ref a5, .ref a6, .ref a7, .int (nI gg.L), .int (nI gg.M), .int mm.pl, .ref a8, .int mm.sd])), (a1, .inl (cI, 49, .inl gg.r)), (a2, .inl (cI, 49, .inl mm.m)), (a3, .inl (cI, 49, .inl gg.im)), (a4, .inl (cI, 49, .inl mm.ws)), (a5, .inl (cI, 96, .inl gg.lt)), (a6, .inl (cI, 16, .inl gg.rw)), (a7, .inl (cI, 7, .inl gg.rf)), (a8, .inl (cI, 3, .inl mm.nb))] sz)) 0 0 (va_A [(a0, .inr (3, [.ref a1, .ref a2, .ref a3, .ref a4, .int gg.hs, .ref a5, .ref a6, .ref a7, .int (nI gg.L), .int (nI gg.M), .int mm.pl, .ref a8, .int mm.sd])), (a1, .inl (cI, 49, .inl gg.r)), (a2, .inl (cI, 49, .inl mm.m)), (a3, .inl (cI, 49, .inl gg.im)), (a4, .inl (cI, 49, .inl mm.ws)), (a5, .inl (cI, 96, .inl gg.lt)), (a6, .inl (cI, 16, .inl gg.rw)), (a7, .inl (cI, 7, .inl gg.rf)), (a8, .inl (cI, 3, .inl mm.nb))] sz) := by
  refine st_rwi (cc := cX4_first) (maxL := 4) (rt := .int) (by decide) rfl (Nat.le_of_ble_eq_true rfl) (fun _ _ _ => rfl) ?_
  intro p e s m below meth c Q ls A hx hb hml hts hown hP hK hD hA hS hl hret
  replace hown : s.vm.findClass RX4 = some m.cls := hown
  replace hl : lv_has ls 4 [(0, .ref a0), (1, .int p0)] := hl
  obtain ⟨H, hH⟩ : ∃ z, z = s.heap := ⟨_, rfl⟩
  obtain ⟨locs, hlo⟩ : ∃ z : List Loc, z = [] := ⟨_, rfl⟩
  replace hP : va_P D vwCl [(a0, .inr (3, [.ref a1, .ref a2, .ref a3, .ref a4, .int gg.hs, .ref a5, .ref a6, .ref a7, .int (nI gg.L), .int (nI gg.M), .int mm.pl, .ref a8, .int mm.sd])), (a1, .inl (cI, 49, .inl gg.r)), (a2, .inl (cI, 49, .inl mm.m)), (a3, .inl (cI, 49, .inl gg.im)), (a4, .inl (cI, 49, .inl mm.ws)), (a5, .inl (cI, 96, .inl gg.lt)), (a6, .inl (cI, 16, .inl gg.rw)), (a7, .inl (cI, 7, .inl gg.rf)), (a8, .inl (cI, 3, .inl mm.nb))] H := by rw [hH]; exact hP
  replace hS : va_S A s.heap H locs := by rw [hH, hlo]; exact hS
  show W p l e ({ frames := 7, cells := 0, slots := 0, locals := 155 }) s m [.ref a0, .int p0].toArray below meth c s.heap [] 0 0 Q (F0 m 0 ls [])
  rw [← hlo]
  suffices hgo : W p l e ({ frames := 7, cells := 0, slots := 0, locals := 155 }) s m [.ref a0, .int p0].toArray below meth c H locs 0 0 Q (F0 m 0 ls []) by rw [hH] at hgo; exact hgo
  clear hH hlo
  have hI := hG.inv
  have hn9 := hI.le
  have hL96 := hG.L96
  have hM16 := hG.M16
  refine lv_iload_n hx hb dX4_first_0 rfl (lv_at hl 1 rfl) ?_
  refine lv_iconst (v := 0) hx hb dX4_first_1 (by decide) ?_
  refine lv_iconst (v := 2) hx hb dX4_first_2 (by decide) ?_
  refine xc_Si (As := [.int p0, .int 0, .int 2]) (rest := []) ⟨hx, hb, hml, hown, hts⟩ (kX4_isIn l D cI p0 0 2) (va_cwS 3 hts gX4_first_X4_isIn rfl rfl rfl hs_X4_isIn ⟨Nat.le_of_ble_eq_true rfl, Nat.le_of_ble_eq_true rfl⟩) hK hP [] rfl rfl hl.1 rfl (Nat.le_of_ble_eq_true rfl) dX4_first_3 ⟨Nat.zero_le _, Nat.zero_le _⟩ (fun r_1 hr_1 => ?_)
  refine lv_if_ne (tgt := 16) hx hb dX4_first_6 (by decide) (fun c_2 => ?_) (fun c_2 => ?_)
  · skip
    have hb_2 : isI p0 0 2 = true := bool_t (hr_1.trans isI_ite) c_2
    obtain ⟨i_2, il_2, iu_2, ei_2⟩ := isI_nat (a := 0) (b := 2) (rfl : (0 : Int32) = nI 0) (rfl : (2 : Int32) = nI 2) (by decide) (by omega) hb_2
    have tn_2 : tN p0 = i_2 := by rw [ei_2]; exact tN_nI (by omega)
    refine lv_iload_n hx hb dX4_first_16 rfl (lv_at hl 1 rfl) ?_
    refine lv_iconst (v := 2) hx hb dX4_first_17 (by decide) ?_
    refine lv_icmp_ne (tgt := 26) hx hb dX4_first_18 (by decide) (fun c_3 => ?_) (fun c_3 => ?_)
    · skip
      have n_3 : ¬ i_2 = 2 := fun q => c_3 ((ni_eq (a := i_2) (b := 2) ei_2 (rfl : (2 : Int32) = nI 2) (by omega) (by decide)).mpr q)
      refine lv_aload_n hx hb dX4_first_26 rfl (lv_at hl 0 rfl) ?_
      refine lv_bipush (v := 15) hx hb dX4_first_27 (by decide) ?_
      refine xw_Vi (As := [.int 15]) (rest := []) (Wn := fun u => [(a0, .inr (3, [.ref a1, .ref a2, .ref a3, .ref a4, .int gg.hs, .ref a5, .ref a6, .ref a7, .int (nI gg.L), .int (nI gg.M), .int mm.pl, .ref a8, .int mm.sd])), (a1, .inl (cI, 49, .inl gg.r)), (a2, .inl (cI, 49, .inl u)), (a3, .inl (cI, 49, .inl gg.im)), (a4, .inl (cI, 49, .inl mm.ws)), (a5, .inl (cI, 96, .inl gg.lt)), (a6, .inl (cI, 16, .inl gg.rw)), (a7, .inl (cI, 7, .inl gg.rf)), (a8, .inl (cI, 3, .inl mm.nb))]) (Wr := []) ⟨hx, hb, hml, hown, hts⟩ (kX4_whenFalls l D cI H.size a0 a1 a2 a3 a4 a5 a6 a7 a8 gg mm hG 15) (cwV 1 hts gX4_first_X4_whenFalls rfl rfl rfl hv_X4_whenFalls ⟨Nat.le_of_ble_eq_true rfl, Nat.le_of_ble_eq_true rfl⟩) hK hP hD hS hA [0, 1, 2, 3, 4, 5, 6, 7, 8] [] [0, 1, 2, 3, 4, 5, 6, 7, 8] rfl rfl (by decide) (by decide) (by decide) (by decide) (fun u => rfl) 0 rfl rfl rfl hl.1 rfl (Nat.le_of_ble_eq_true rfl) dX4_first_29 ⟨Nat.zero_le _, Nat.zero_le _⟩ (fun r_4 u_4 H locs hw_4 hP hD hS => ?_)
      refine lv_istore_n (lv' := [(2, .int r_4), (0, .ref a0), (1, .int p0)]) hx hb dX4_first_32 rfl hl (by decide) rfl (fun ls hl => ?_)
      refine lv_iload_n hx hb dX4_first_33 rfl (lv_at hl 0 rfl) ?_
      refine lv_if_lt (tgt := 42) hx hb dX4_first_34 (by decide) (fun c_5 => ?_) (fun c_5 => ?_)
      · skip
        have d_5 : ¬ 0 ≤ r_4 := Int32.not_le.2 c_5
        have hq4 : whF gg.r gg.n 15 < 0 := by rw [← hw_4]; exact c_5
        refine lv_iload_n hx hb dX4_first_42 rfl (lv_at hl 0 rfl) ?_
        exact hret 43 _ r_4 (gg, (u_4, mm.ws, mm.nb, mm.pl, mm.sd)) _ _ dX4_first_43 (by first | (simp [sp_first, rfz, us, c_2, c_3, c_5, hb_2, tn_2, n_3, hq4, hw_4]; done) | (simp [sp_first, rfz, us, c_2, c_3, c_5, hb_2, tn_2, n_3, hq4, hw_4, isI]; done) | (simp [sp_first, rfz, us, c_2, c_3, c_5, hb_2, tn_2, n_3, hq4, hw_4, wrB, lackF]; done)) hP hD hS
      have d_5 : 0 ≤ r_4 := Int32.not_lt.1 c_5
      refine lv_iload_n hx hb dX4_first_37 rfl (lv_at hl 2 rfl) ?_
      refine lv_iconst (v := 1) hx hb dX4_first_38 (by decide) ?_
      refine lv_icmp_ne (tgt := 44) hx hb dX4_first_39 (by decide) (fun c_6 => ?_) (fun c_6 => ?_)
      · skip
        have n_6 : ¬ i_2 = 1 := fun q => c_6 ((ni_eq (a := i_2) (b := 1) ei_2 (rfl : (1 : Int32) = nI 1) (by omega) (by decide)).mpr q)
        have hq1 := c_3
        have hq2 := c_6
        have hq3 : ¬ whF gg.r gg.n 15 < 0 := by rw [← hw_4]; exact c_5
        refine lv_iconst (v := 0) hx hb dX4_first_44 (by decide) ?_
        refine lv_istore_n (lv' := [(3, .int 0), (2, .int r_4), (0, .ref a0), (1, .int p0)]) hx hb dX4_first_45 rfl hl (by decide) rfl (fun ls hl => ?_)
        have lp_46_7 : ∀ (fu : Nat) (i : Nat) (x3 : Int32) (f : RR) (ls : Array Slot) (H : Heap) (locs : List Loc), 4 - i < fu → (x3 = nI i) → (i ≤ 4) → (∀ j, j < i → fsP gg.r gg.n (whF gg.r gg.n 15) j = false) → va_P D vwCl [(a0, .inr (3, [.ref a1, .ref a2, .ref a3, .ref a4, .int gg.hs, .ref a5, .ref a6, .ref a7, .int (nI gg.L), .int (nI gg.M), .int mm.pl, .ref a8, .int mm.sd])), (a1, .inl (cI, 49, .inl gg.r)), (a2, .inl (cI, 49, .inl f)), (a3, .inl (cI, 49, .inl gg.im)), (a4, .inl (cI, 49, .inl mm.ws)), (a5, .inl (cI, 96, .inl gg.lt)), (a6, .inl (cI, 16, .inl gg.rw)), (a7, .inl (cI, 7, .inl gg.rf)), (a8, .inl (cI, 3, .inl mm.nb))] H → va_D A [(a0, .inr (3, [.ref a1, .ref a2, .ref a3, .ref a4, .int gg.hs, .ref a5, .ref a6, .ref a7, .int (nI gg.L), .int (nI gg.M), .int mm.pl, .ref a8, .int mm.sd])), (a1, .inl (cI, 49, .inl gg.r)), (a2, .inl (cI, 49, .inl f)), (a3, .inl (cI, 49, .inl gg.im)), (a4, .inl (cI, 49, .inl mm.ws)), (a5, .inl (cI, 96, .inl gg.lt)), (a6, .inl (cI, 16, .inl gg.rw)), (a7, .inl (cI, 7, .inl gg.rf)), (a8, .inl (cI, 3, .inl mm.nb))] → va_S A s.heap H locs → lv_has ls 4 [(3, .int x3), (2, .int r_4), (0, .ref a0), (1, .int p0)] → W p l e ({ frames := 7, cells := 0, slots := 0, locals := 155 }) s m [.ref a0, .int p0].toArray below meth c H locs 0 0 Q (F0 m 46 ls []) := by
          intro fu
          induction fu with
          | zero =>
            intro i x3 f ls H locs hfu
            exact absurd hfu (Nat.not_lt_zero _)
          | succ fu ih_7 =>
            intro i x3 f ls H locs hfu hx3 hi hj hP hD hS hl
            refine lv_iload_n hx hb dX4_first_46 rfl (lv_at hl 0 rfl) ?_
            refine lv_iconst (v := 4) hx hb dX4_first_47 (by decide) ?_
            refine lv_icmp_ge (tgt := 70) hx hb dX4_first_48 (by decide) (fun c_8 => ?_) (fun c_8 => ?_)
            · skip
              have n_8 : 4 ≤ i := (ni_le (a := 4) (b := i) (rfl : (4 : Int32) = nI 4) hx3 (by decide) (by omega)).mp c_8
              have d_8 : ¬ x3 < 4 := Int32.not_lt.2 c_8
              have m_8 : ¬ i < 4 := by omega
              refine lv_bipush (v := (-9)) hx hb dX4_first_70 (by decide) ?_
              exact hret 72 _ (-9) (gg, (f, mm.ws, mm.nb, mm.pl, mm.sd)) _ _ dX4_first_72 (by have e9 : i = 4 := (by omega); rw [e9] at hj; have q9 := ff_none hj; simp [sp_first, q9, hb_2, hq1, hq2, hq3]) hP hD hS
            have n_8 : ¬ 4 ≤ i := fun q => c_8 ((ni_le (a := 4) (b := i) (rfl : (4 : Int32) = nI 4) hx3 (by decide) (by omega)).mpr q)
            have d_8 : x3 < 4 := Int32.not_le.1 c_8
            have m_8 : i < 4 := by omega
            refine lv_aload_n hx hb dX4_first_51 rfl (lv_at hl 2 rfl) ?_
            refine lv_iconst (v := 1) hx hb dX4_first_52 (by decide) ?_
            refine lv_iload_n hx hb dX4_first_53 rfl (lv_at hl 0 rfl) ?_
            refine lv_ishl hx hb dX4_first_54 ?_
            refine xw_Vi (As := [.int (1 <<< (x3 &&& 31))]) (rest := []) (Wn := fun u => [(a0, .inr (3, [.ref a1, .ref a2, .ref a3, .ref a4, .int gg.hs, .ref a5, .ref a6, .ref a7, .int (nI gg.L), .int (nI gg.M), .int mm.pl, .ref a8, .int mm.sd])), (a1, .inl (cI, 49, .inl gg.r)), (a2, .inl (cI, 49, .inl u)), (a3, .inl (cI, 49, .inl gg.im)), (a4, .inl (cI, 49, .inl mm.ws)), (a5, .inl (cI, 96, .inl gg.lt)), (a6, .inl (cI, 16, .inl gg.rw)), (a7, .inl (cI, 7, .inl gg.rf)), (a8, .inl (cI, 3, .inl mm.nb))]) (Wr := []) ⟨hx, hb, hml, hown, hts⟩ (kX4_whenFalls l D cI H.size a0 a1 a2 a3 a4 a5 a6 a7 a8 gg (f, mm.ws, mm.nb, mm.pl, mm.sd) hG (1 <<< (x3 &&& 31))) (cwV 1 hts gX4_first_X4_whenFalls rfl rfl rfl hv_X4_whenFalls ⟨Nat.le_of_ble_eq_true rfl, Nat.le_of_ble_eq_true rfl⟩) hK hP hD hS hA [0, 1, 2, 3, 4, 5, 6, 7, 8] [] [0, 1, 2, 3, 4, 5, 6, 7, 8] rfl rfl (by decide) (by decide) (by decide) (by decide) (fun u => rfl) 0 rfl rfl rfl hl.1 rfl (Nat.le_of_ble_eq_true rfl) dX4_first_55 ⟨Nat.zero_le _, Nat.zero_le _⟩ (fun r_9 u_9 H locs hw_9 hP hD hS => ?_)
            refine lv_iload_n hx hb dX4_first_58 rfl (lv_at hl 1 rfl) ?_
            refine lv_icmp_ne (tgt := 64) hx hb dX4_first_59 (by decide) (fun c_10 => ?_) (fun c_10 => ?_)
            · skip
              obtain ⟨x_11, ex_11⟩ : ∃ z : Int32, z = x3 + 1 := ⟨_, rfl⟩
              refine lv_iinc (v := x_11) (lv' := [(3, .int x_11), (2, .int r_4), (0, .ref a0), (1, .int p0)]) hx hb dX4_first_64 hl (k := 0) rfl (by rw [ex_11]; rfl) (by decide) rfl (fun ls hl => ?_)
              refine lv_goto (tgt := 46) hx hb dX4_first_67 (by decide) ?_
              exact ih_7 (i + 1) x_11 u_9 _ _ _ (by omega) (ni_add (a := i) (b := 1) ex_11 hx3 (rfl : (1 : Int32) = nI 1)) (by omega) (lt_s hj (by rw [fsP]; have z := c_10; rw [hw_9, hw_4, hx3] at z; simp only [decide_eq_false_iff_not]; exact z)) hP hD hS (lv_sub hl [0, 1, 2, 3] rfl)
            refine lv_iload_n hx hb dX4_first_62 rfl (lv_at hl 0 rfl) ?_
            exact hret 63 _ x3 (gg, (u_9, mm.ws, mm.nb, mm.pl, mm.sd)) _ _ dX4_first_63 (by have q9 : ff (fsP gg.r gg.n (whF gg.r gg.n 15)) 4 = i := ff_eq (by omega) (by rw [fsP]; have z := c_10; rw [hw_9, hw_4, hx3] at z; simp only [decide_eq_true_eq]; exact z) hj; simp [sp_first, q9, hx3, (show i < 4 by omega), hb_2, hq1, hq2, hq3]) hP hD hS
        exact lp_46_7 ((4 - 0) + 1) 0 0 u_4 _ _ _ (by omega) (rfl : (0 : Int32) = nI 0) (by omega) (fun j hj => absurd hj (Nat.not_lt_zero _)) hP hD hS (lv_sub hl [0, 1, 2, 3] rfl)
      have n_6 : i_2 = 1 := (ni_eq (a := i_2) (b := 1) ei_2 (rfl : (1 : Int32) = nI 1) (by omega) (by decide)).mp c_6
      refine lv_iload_n hx hb dX4_first_42 rfl (lv_at hl 0 rfl) ?_
      exact hret 43 _ r_4 (gg, (u_4, mm.ws, mm.nb, mm.pl, mm.sd)) _ _ dX4_first_43 (by first | (simp [sp_first, rfz, us, c_2, c_3, c_5, c_6, hb_2, tn_2, n_3, n_6, hw_4]; done) | (simp [sp_first, rfz, us, c_2, c_3, c_5, c_6, hb_2, tn_2, n_3, n_6, hw_4, isI]; done) | (simp [sp_first, rfz, us, c_2, c_3, c_5, c_6, hb_2, tn_2, n_3, n_6, hw_4, wrB, lackF]; done)) hP hD hS
    have n_3 : i_2 = 2 := (ni_eq (a := i_2) (b := 2) ei_2 (rfl : (2 : Int32) = nI 2) (by omega) (by decide)).mp c_3
    refine lv_aload_n hx hb dX4_first_21 rfl (lv_at hl 0 rfl) ?_
    refine xw_Vi (As := []) (rest := []) (Wn := fun u => [(a0, .inr (3, [.ref a1, .ref a2, .ref a3, .ref a4, .int gg.hs, .ref a5, .ref a6, .ref a7, .int (nI gg.L), .int (nI gg.M), .int mm.pl, .ref a8, .int mm.sd])), (a1, .inl (cI, 49, .inl gg.r)), (a2, .inl (cI, 49, .inl u)), (a3, .inl (cI, 49, .inl gg.im)), (a4, .inl (cI, 49, .inl mm.ws)), (a5, .inl (cI, 96, .inl gg.lt)), (a6, .inl (cI, 16, .inl gg.rw)), (a7, .inl (cI, 7, .inl gg.rf)), (a8, .inl (cI, 3, .inl mm.nb))]) (Wr := []) ⟨hx, hb, hml, hown, hts⟩ (kX4_still l D cI H.size a0 a1 a2 a3 a4 a5 a6 a7 a8 gg mm hG) (cwV 0 hts gX4_first_X4_still rfl rfl rfl hv_X4_still ⟨Nat.le_of_ble_eq_true rfl, Nat.le_of_ble_eq_true rfl⟩) hK hP hD hS hA [0, 1, 2, 3, 4, 5, 6, 7, 8] [] [0, 1, 2, 3, 4, 5, 6, 7, 8] rfl rfl (by decide) (by decide) (by decide) (by decide) (fun u => rfl) 0 rfl rfl rfl hl.1 rfl (Nat.le_of_ble_eq_true rfl) dX4_first_22 ⟨Nat.zero_le _, Nat.zero_le _⟩ (fun r_12 u_12 H locs hw_12 hP hD hS => ?_)
    exact hret 25 _ r_12 (gg, (u_12, mm.ws, mm.nb, mm.pl, mm.sd)) _ _ dX4_first_25 (by first | (simp [sp_first, rfz, us, c_2, c_3, hb_2, tn_2, n_3, hw_12]; done) | (simp [sp_first, rfz, us, c_2, c_3, hb_2, tn_2, n_3, hw_12, isI]; done) | (simp [sp_first, rfz, us, c_2, c_3, hb_2, tn_2, n_3, hw_12, wrB, lackF]; done)) hP hD hS
  have hb_2 : isI p0 0 2 = false := bool_f (hr_1.trans isI_ite) c_2
  refine lv_aload_n hx hb dX4_first_9 rfl (lv_at hl 0 rfl) ?_
  refine lv_bipush (v := (-2)) hx hb dX4_first_10 (by decide) ?_
  refine xw_Vi (As := [.int (-2)]) (rest := []) (Wn := fun u => [(a0, .inr (3, [.ref a1, .ref a2, .ref a3, .ref a4, .int gg.hs, .ref a5, .ref a6, .ref a7, .int (nI gg.L), .int (nI gg.M), .int mm.pl, .ref a8, .int mm.sd])), (a1, .inl (cI, 49, .inl gg.r)), (a2, .inl (cI, 49, .inl mm.m)), (a3, .inl (cI, 49, .inl gg.im)), (a4, .inl (cI, 49, .inl mm.ws)), (a5, .inl (cI, 96, .inl gg.lt)), (a6, .inl (cI, 16, .inl gg.rw)), (a7, .inl (cI, 7, .inl (upd gg.rf (cN (-2)) (gg.rf (cN (-2)) + 1)))), (a8, .inl (cI, 3, .inl mm.nb))]) (Wr := [(a1, .inl (cI, 49, .inl gg.r)), (a2, .inl (cI, 49, .inl mm.m)), (a3, .inl (cI, 49, .inl gg.im)), (a4, .inl (cI, 49, .inl mm.ws)), (a5, .inl (cI, 96, .inl gg.lt)), (a6, .inl (cI, 16, .inl gg.rw)), (a8, .inl (cI, 3, .inl mm.nb))]) ⟨hx, hb, hml, hown, hts⟩ (kX4_no l D cI H.size a0 a1 a2 a3 a4 a5 a6 a7 a8 gg mm (-2) okc_2) (cwV 1 hts gX4_first_X4_no rfl rfl rfl hv_X4_no ⟨Nat.le_of_ble_eq_true rfl, Nat.le_of_ble_eq_true rfl⟩) hK hP hD hS hA [0, 7] [1, 2, 3, 4, 5, 6, 8] [7, 0, 1, 2, 3, 4, 5, 8, 6] rfl rfl (by decide) (by decide) (by decide) (by decide) (fun u => rfl) 0 rfl rfl rfl hl.1 rfl (Nat.le_of_ble_eq_true rfl) dX4_first_12 ⟨Nat.zero_le _, Nat.zero_le _⟩ (fun r_13 u_13 H locs hw_13 hP hD hS => ?_)
  exact hret 15 _ r_13 ((gg.n, gg.r, gg.m, gg.im, gg.hs, gg.lt, gg.L, gg.rw, gg.M, (upd gg.rf (cN (-2)) (gg.rf (cN (-2)) + 1))), mm) _ _ dX4_first_15 (by first | (simp [sp_first, rfz, us, c_2, hb_2, hw_13]; done) | (simp [sp_first, rfz, us, c_2, hb_2, hw_13, isI]; done) | (simp [sp_first, rfz, us, c_2, hb_2, hw_13, wrB, lackF]; done)) hP hD hS


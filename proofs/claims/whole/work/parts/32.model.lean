theorem hs_X4_here : yX4_here.cls ≠ "java/lang/invoke/MethodHandle" ∧ yX4_here.cls ≠ "java/lang/invoke/VarHandle" ∧ (parseMethodDescriptor yX4_here.desc).map (fun d => d.parameters.length) = some 0 := by decide +kernel
theorem hv_X4_here : yX4_here.cls = RX4 ∧ yX4_here.cls ≠ "java/lang/invoke/MethodHandle" ∧ yX4_here.cls ≠ "java/lang/invoke/VarHandle" ∧ (parseMethodDescriptor yX4_here.desc).map (fun d => d.parameters.length) = some 0 := ⟨rfl, hs_X4_here⟩
theorem hs_X4_readsNumber : yX4_readsNumber.cls ≠ "java/lang/invoke/MethodHandle" ∧ yX4_readsNumber.cls ≠ "java/lang/invoke/VarHandle" ∧ (parseMethodDescriptor yX4_readsNumber.desc).map (fun d => d.parameters.length) = some 2 := by decide +kernel
theorem hv_X4_readsNumber : yX4_readsNumber.cls = RX4 ∧ yX4_readsNumber.cls ≠ "java/lang/invoke/MethodHandle" ∧ yX4_readsNumber.cls ≠ "java/lang/invoke/VarHandle" ∧ (parseMethodDescriptor yX4_readsNumber.desc).map (fun d => d.parameters.length) = some 2 := ⟨rfl, hs_X4_readsNumber⟩
theorem hs_X4_readsKind : yX4_readsKind.cls ≠ "java/lang/invoke/MethodHandle" ∧ yX4_readsKind.cls ≠ "java/lang/invoke/VarHandle" ∧ (parseMethodDescriptor yX4_readsKind.desc).map (fun d => d.parameters.length) = some 0 := by decide +kernel
theorem hv_X4_readsKind : yX4_readsKind.cls = RX4 ∧ yX4_readsKind.cls ≠ "java/lang/invoke/MethodHandle" ∧ yX4_readsKind.cls ≠ "java/lang/invoke/VarHandle" ∧ (parseMethodDescriptor yX4_readsKind.desc).map (fun d => d.parameters.length) = some 0 := ⟨rfl, hs_X4_readsKind⟩
theorem hs_X4_readsStatement : yX4_readsStatement.cls ≠ "java/lang/invoke/MethodHandle" ∧ yX4_readsStatement.cls ≠ "java/lang/invoke/VarHandle" ∧ (parseMethodDescriptor yX4_readsStatement.desc).map (fun d => d.parameters.length) = some 0 := by decide +kernel
theorem hv_X4_readsStatement : yX4_readsStatement.cls = RX4 ∧ yX4_readsStatement.cls ≠ "java/lang/invoke/MethodHandle" ∧ yX4_readsStatement.cls ≠ "java/lang/invoke/VarHandle" ∧ (parseMethodDescriptor yX4_readsStatement.desc).map (fun d => d.parameters.length) = some 0 := ⟨rfl, hs_X4_readsStatement⟩
set_option maxHeartbeats 4000000 in
set_option maxRecDepth 100000 in
theorem kX4_here (l : Launch) (D : va_G) (cI : ClassId) (a0 a1 a2 a3 a4 a5 a6 a7 a8 : Nat) (gg : GG) (mm : MS) (hL96 : gg.L ≤ 96) (q0 : Nat) (hp9 : q0 ≤ 1000) : Met l yX4_here wsX4_here ({ frames := 0, cells := 0, slots := 0, locals := 0 }) (PRO D cI [.ref a0] [(a0, .inr (3, [.ref a1, .ref a2, .ref a3, .ref a4, .int gg.hs, .ref a5, .ref a6, .ref a7, .int (nI gg.L), .int (nI gg.M), .int (nI q0), .ref a8, .int mm.sd])), (a5, .inl (cI, 96, .inl gg.lt))]) (vp_Si (fun v => v = hrF gg.lt gg.L q0)) 0 0 (fun _ => False) := by
  refine st_roi (cc := cX4_here) (maxL := 1) (rt := .int) (by decide) rfl (Nat.le_of_ble_eq_true rfl) (fun _ _ => rfl) ?_
  intro p e s m below meth c Q ls hx hb hml hts hown hP hK hl hret
  replace hown : s.vm.findClass RX4 = some m.cls := hown
  replace hl : lv_has ls 1 [(0, .ref a0)] := hl
  have hi_X4 : ∀ w ∈ wsX40, w ∈ wsX4_here := fun w h => List.mem_cons_of_mem _ (List.mem_append_right _ (h))
  have hk_103 := hts (.fieldLink RX4 103 "NestsOfTalkModel" "place" "I") (List.mem_of_getElem? (i := 1) rfl)
  have hk_99 := hts (.fieldLink RX4 99 "NestsOfTalkModel" "letterMany" "I") (List.mem_of_getElem? (i := 2) rfl)
  have hk_22 := hts (.fieldLink RX4 22 "NestsOfTalkModel" "letters" "[I") (List.mem_of_getElem? (i := 3) rfl)
  refine lv_aload_n hx hb dX4_here_0 rfl (lv_at hl 0 rfl) ?_
  refine va_get (D := D) (ci := 3) (v := .int (nI q0)) (C := RX4) (T := TX4) (N := 13) hx hb hts hi_X4 hown hK.1 hP 0 rfl rfl 10 (by decide) hk_103 (fun _ h9 => h9) rfl dX4_here_1 ?_
  refine lv_aload_n hx hb dX4_here_4 rfl (lv_at hl 0 rfl) ?_
  refine va_get (D := D) (ci := 3) (v := .int (nI gg.L)) (C := RX4) (T := TX4) (N := 13) hx hb hts hi_X4 hown hK.1 hP 0 rfl rfl 8 (by decide) hk_99 (fun _ h9 => h9) rfl dX4_here_5 ?_
  refine lv_icmp_ge (tgt := 23) hx hb dX4_here_8 (by decide) (fun c_1 => ?_) (fun c_1 => ?_)
  · skip
    have n_1 : gg.L ≤ q0 := (ni_le (a := gg.L) (b := q0) rfl rfl (by omega) (by omega)).mp c_1
    refine lv_iconst (v := (-1)) hx hb dX4_here_23 (by decide) ?_
    exact hret 24 _ (-1) dX4_here_24 (hrF_ge (by omega)).symm
  have n_1 : ¬ gg.L ≤ q0 := fun q => c_1 ((ni_le (a := gg.L) (b := q0) rfl rfl (by omega) (by omega)).mpr q)
  refine lv_aload_n hx hb dX4_here_11 rfl (lv_at hl 0 rfl) ?_
  refine va_get (D := D) (ci := 3) (v := .ref a5) (C := RX4) (T := TX4) (N := 13) hx hb hts hi_X4 hown hK.1 hP 0 rfl rfl 5 (by decide) hk_22 (fun _ h9 => h9) rfl dX4_here_12 ?_
  refine lv_aload_n hx hb dX4_here_15 rfl (lv_at hl 0 rfl) ?_
  refine va_get (D := D) (ci := 3) (v := .int (nI q0)) (C := RX4) (T := TX4) (N := 13) hx hb hts hi_X4 hown hK.1 hP 0 rfl rfl 10 (by decide) hk_103 (fun _ h9 => h9) rfl dX4_here_16 ?_
  refine xa_ld hx hb hK hP 1 rfl (j := q0) rfl (by omega) (by decide) dX4_here_19 ?_
  refine lv_goto (tgt := 24) hx hb dX4_here_20 (by decide) ?_
  exact hret 24 _ (gg.lt q0) dX4_here_24 (if_pos (by omega)).symm

set_option maxHeartbeats 4000000 in
set_option maxRecDepth 100000 in
theorem kX4_readsNumber (l : Launch) (D : va_G) (cI : ClassId) (sz : Nat) (a0 a1 a2 a3 a4 a5 a6 a7 a8 : Nat) (gg : GG) (mm : MS) (hL96 : gg.L ≤ 96) (q0 : Nat) (hp9 : q0 ≤ 900) (nb : RR) (k d : Nat) (p0 p1 : Int32) (hp0 : p0 = nI k) (hk3 : k < 3) (hp1 : p1 = nI d) (hd2 : d ≤ 2) : Met l yX4_readsNumber wsX4_readsNumber ({ frames := 1, cells := 0, slots := 0, locals := 22 }) (PRW D cI [.ref a0, .int p0, .int p1] [(a0, .inr (3, [.ref a1, .ref a2, .ref a3, .ref a4, .int gg.hs, .ref a5, .ref a6, .ref a7, .int (nI gg.L), .int (nI gg.M), .int (nI q0), .ref a8, .int mm.sd])), (a5, .inl (cI, 96, .inl gg.lt)), (a8, .inl (cI, 3, .inl nb))] sz) (va_Qi (S := Nat × RR) (fun v u => (v = 1 ∧ (∀ j, j < d → ndB gg.lt gg.L q0 j = false) ∧ u = (q0 + d, numN gg.lt gg.L k nb q0 d)) ∨ (v = 0 ∧ ∃ i, i < d ∧ ndB gg.lt gg.L q0 i = true ∧ (∀ j, j < i → ndB gg.lt gg.L q0 j = false) ∧ u.1 = q0 + i)) (BRW D [(a0, .inr (3, [.ref a1, .ref a2, .ref a3, .ref a4, .int gg.hs, .ref a5, .ref a6, .ref a7, .int (nI gg.L), .int (nI gg.M), .int (nI q0), .ref a8, .int mm.sd])), (a5, .inl (cI, 96, .inl gg.lt)), (a8, .inl (cI, 3, .inl nb))] sz (fun u => [(a0, .inr (3, [.ref a1, .ref a2, .ref a3, .ref a4, .int gg.hs, .ref a5, .ref a6, .ref a7, .int (nI gg.L), .int (nI gg.M), .int (nI u.1), .ref a8, .int mm.sd])), (a5, .inl (cI, 96, .inl gg.lt)), (a8, .inl (cI, 3, .inl u.2))])) (va_A [(a0, .inr (3, [.ref a1, .ref a2, .ref a3, .ref a4, .int gg.hs, .ref a5, .ref a6, .ref a7, .int (nI gg.L), .int (nI gg.M), .int (nI q0), .ref a8, .int mm.sd])), (a5, .inl (cI, 96, .inl gg.lt)), (a8, .inl (cI, 3, .inl nb))] sz)) 0 0 (va_A [(a0, .inr (3, [.ref a1, .ref a2, .ref a3, .ref a4, .int gg.hs, .ref a5, .ref a6, .ref a7, .int (nI gg.L), .int (nI gg.M), .int (nI q0), .ref a8, .int mm.sd])), (a5, .inl (cI, 96, .inl gg.lt)), (a8, .inl (cI, 3, .inl nb))] sz) := by
  refine st_rwi (cc := cX4_readsNumber) (maxL := 4) (rt := .boolean) (by decide) rfl (Nat.le_of_ble_eq_true rfl) (by rintro v u (⟨h, _⟩ | ⟨h, _⟩) <;> (subst h; rfl)) ?_
  intro p e s m below meth c Q ls A hx hb hml hts hown hP hK hD hA hS hl hret
  replace hown : s.vm.findClass RX4 = some m.cls := hown
  replace hl : lv_has ls 4 [(0, .ref a0), (1, .int p0), (2, .int p1)] := hl
  obtain ⟨H, hH⟩ : ∃ z, z = s.heap := ⟨_, rfl⟩
  obtain ⟨locs, hlo⟩ : ∃ z : List Loc, z = [] := ⟨_, rfl⟩
  replace hP : va_P D vwCl [(a0, .inr (3, [.ref a1, .ref a2, .ref a3, .ref a4, .int gg.hs, .ref a5, .ref a6, .ref a7, .int (nI gg.L), .int (nI gg.M), .int (nI q0), .ref a8, .int mm.sd])), (a5, .inl (cI, 96, .inl gg.lt)), (a8, .inl (cI, 3, .inl nb))] H := by rw [hH]; exact hP
  replace hS : va_S A s.heap H locs := by rw [hH, hlo]; exact hS
  show W p l e ({ frames := 1, cells := 0, slots := 0, locals := 22 }) s m [.ref a0, .int p0, .int p1].toArray below meth c s.heap [] 0 0 Q (F0 m 0 ls [])
  rw [← hlo]
  suffices hgo : W p l e ({ frames := 1, cells := 0, slots := 0, locals := 22 }) s m [.ref a0, .int p0, .int p1].toArray below meth c H locs 0 0 Q (F0 m 0 ls []) by rw [hH] at hgo; exact hgo
  clear hH hlo
  have hi_X4 : ∀ w ∈ wsX40, w ∈ wsX4_readsNumber := fun w h => List.mem_cons_of_mem _ (List.mem_append_right _ (h))
  have hk_31 := hts (.fieldLink RX4 31 "NestsOfTalkModel" "numbers" "[I") (List.mem_of_getElem? (i := 1) rfl)
  have hk_103 := hts (.fieldLink RX4 103 "NestsOfTalkModel" "place" "I") (List.mem_of_getElem? (i := 2) rfl)
  refine lv_aload_n hx hb dX4_readsNumber_0 rfl (lv_at hl 0 rfl) ?_
  refine va_get (D := D) (ci := 3) (v := .ref a8) (C := RX4) (T := TX4) (N := 13) hx hb hts hi_X4 hown hK.1 hP 0 rfl rfl 11 (by decide) hk_31 (fun _ h9 => h9) rfl dX4_readsNumber_1 ?_
  refine lv_iload_n hx hb dX4_readsNumber_4 rfl (lv_at hl 1 rfl) ?_
  refine lv_iconst (v := 0) hx hb dX4_readsNumber_5 (by decide) ?_
  refine xa_st hx hb hK hP hD hS 2 rfl (j := k) hp0 (by omega) (by decide) dX4_readsNumber_6 (fun H locs hP hD hS => ?_)
  obtain ⟨f_1, ef_1⟩ : ∃ z : Nat → Int32, z = upd nb k 0 := ⟨_, rfl⟩
  replace hP : va_P D vwCl [(a0, .inr (3, [.ref a1, .ref a2, .ref a3, .ref a4, .int gg.hs, .ref a5, .ref a6, .ref a7, .int (nI gg.L), .int (nI gg.M), .int (nI q0), .ref a8, .int mm.sd])), (a5, .inl (cI, 96, .inl gg.lt)), (a8, .inl (cI, 3, .inl (upd nb k 0)))] H := hP
  replace hD : va_D A [(a0, .inr (3, [.ref a1, .ref a2, .ref a3, .ref a4, .int gg.hs, .ref a5, .ref a6, .ref a7, .int (nI gg.L), .int (nI gg.M), .int (nI q0), .ref a8, .int mm.sd])), (a5, .inl (cI, 96, .inl gg.lt)), (a8, .inl (cI, 3, .inl (upd nb k 0)))] := hD
  rw [← ef_1] at hP hD
  refine lv_iconst (v := 0) hx hb dX4_readsNumber_7 (by decide) ?_
  refine lv_istore_n (lv' := [(3, .int 0), (0, .ref a0), (1, .int p0), (2, .int p1)]) hx hb dX4_readsNumber_8 rfl hl (by decide) rfl (fun ls hl => ?_)
  have lp_9_2 : ∀ (fu : Nat) (i : Nat) (x3 : Int32) (f : RR) (ls : Array Slot) (H : Heap) (locs : List Loc), d - i < fu → (x3 = nI i) → (i ≤ d) → (∀ j, j < i → ndB gg.lt gg.L q0 j = false) → (f = numN gg.lt gg.L k nb q0 i) → va_P D vwCl [(a0, .inr (3, [.ref a1, .ref a2, .ref a3, .ref a4, .int gg.hs, .ref a5, .ref a6, .ref a7, .int (nI gg.L), .int (nI gg.M), .int (nI (q0 + i)), .ref a8, .int mm.sd])), (a5, .inl (cI, 96, .inl gg.lt)), (a8, .inl (cI, 3, .inl f))] H → va_D A [(a0, .inr (3, [.ref a1, .ref a2, .ref a3, .ref a4, .int gg.hs, .ref a5, .ref a6, .ref a7, .int (nI gg.L), .int (nI gg.M), .int (nI (q0 + i)), .ref a8, .int mm.sd])), (a5, .inl (cI, 96, .inl gg.lt)), (a8, .inl (cI, 3, .inl f))] → va_S A s.heap H locs → lv_has ls 4 [(3, .int x3), (0, .ref a0), (1, .int p0), (2, .int p1)] → W p l e ({ frames := 1, cells := 0, slots := 0, locals := 22 }) s m [.ref a0, .int p0, .int p1].toArray below meth c H locs 0 0 Q (F0 m 9 ls []) := by
    intro fu
    induction fu with
    | zero =>
      intro i x3 f ls H locs hfu
      exact absurd hfu (Nat.not_lt_zero _)
    | succ fu ih_2 =>
      intro i x3 f ls H locs hfu hx3 hi hj hf hP hD hS hl
      refine lv_iload_n hx hb dX4_readsNumber_9 rfl (lv_at hl 0 rfl) ?_
      refine lv_iload_n hx hb dX4_readsNumber_10 rfl (lv_at hl 3 rfl) ?_
      refine lv_icmp_ge (tgt := 69) hx hb dX4_readsNumber_11 (by decide) (fun c_3 => ?_) (fun c_3 => ?_)
      · skip
        have n_3 : d ≤ i := (ni_le (a := d) (b := i) hp1 hx3 (by omega) (by omega)).mp c_3
        refine lv_iconst (v := 1) hx hb dX4_readsNumber_69 (by decide) ?_
        exact hret 70 _ 1 (q0 + i, f) _ _ dX4_readsNumber_70 (Or.inl ⟨rfl, by have e9 : i = d := (by omega); rw [← e9]; exact hj, by have e9 : i = d := (by omega); rw [hf, e9]⟩) hP hD hS
      have n_3 : ¬ d ≤ i := fun q => c_3 ((ni_le (a := d) (b := i) hp1 hx3 (by omega) (by omega)).mpr q)
      refine lv_aload_n hx hb dX4_readsNumber_14 rfl (lv_at hl 1 rfl) ?_
      refine xc_Vi (As := []) (rest := []) ⟨hx, hb, hml, hown, hts⟩ (kX4_here l D cI a0 a1 a2 a3 a4 a5 a6 a7 a8 gg mm hL96 (q0 + i) (by omega)) (cwV 0 hts gX4_readsNumber_X4_here rfl rfl rfl hv_X4_here ⟨Nat.le_of_ble_eq_true rfl, Nat.le_of_ble_eq_true rfl⟩) hK hP [0, 1] rfl 0 rfl rfl rfl hl.1 rfl (Nat.le_of_ble_eq_true rfl) dX4_readsNumber_15 ⟨Nat.zero_le _, Nat.zero_le _⟩ (fun r_4 hr_4 => ?_)
      refine lv_bipush (v := 48) hx hb dX4_readsNumber_18 (by decide) ?_
      refine lv_bipush (v := 57) hx hb dX4_readsNumber_20 (by decide) ?_
      refine xc_Si (As := [.int r_4, .int 48, .int 57]) (rest := []) ⟨hx, hb, hml, hown, hts⟩ (kX4_isIn l D cI r_4 48 57) (va_cwS 3 hts gX4_readsNumber_X4_isIn rfl rfl rfl hs_X4_isIn ⟨Nat.le_of_ble_eq_true rfl, Nat.le_of_ble_eq_true rfl⟩) hK hP [] rfl rfl hl.1 rfl (Nat.le_of_ble_eq_true rfl) dX4_readsNumber_22 ⟨Nat.zero_le _, Nat.zero_le _⟩ (fun r_5 hr_5 => ?_)
      refine lv_if_ne (tgt := 30) hx hb dX4_readsNumber_25 (by decide) (fun c_6 => ?_) (fun c_6 => ?_)
      · skip
        have hb_6 : isI r_4 48 57 = true := bool_t (hr_5.trans isI_ite) c_6
        obtain ⟨i_6, il_6, iu_6, ei_6⟩ := isI_nat (a := 48) (b := 57) (rfl : (48 : Int32) = nI 48) (rfl : (57 : Int32) = nI 57) (by decide) (by omega) hb_6
        refine lv_aload_n hx hb dX4_readsNumber_30 rfl (lv_at hl 1 rfl) ?_
        refine va_get (D := D) (ci := 3) (v := .ref a8) (C := RX4) (T := TX4) (N := 13) hx hb hts hi_X4 hown hK.1 hP 0 rfl rfl 11 (by decide) hk_31 (fun _ h9 => h9) rfl dX4_readsNumber_31 ?_
        refine lv_iload_n hx hb dX4_readsNumber_34 rfl (lv_at hl 2 rfl) ?_
        refine lv_bipush (v := 10) hx hb dX4_readsNumber_35 (by decide) ?_
        refine lv_aload_n hx hb dX4_readsNumber_37 rfl (lv_at hl 1 rfl) ?_
        refine va_get (D := D) (ci := 3) (v := .ref a8) (C := RX4) (T := TX4) (N := 13) hx hb hts hi_X4 hown hK.1 hP 0 rfl rfl 11 (by decide) hk_31 (fun _ h9 => h9) rfl dX4_readsNumber_38 ?_
        refine lv_iload_n hx hb dX4_readsNumber_41 rfl (lv_at hl 2 rfl) ?_
        refine xa_ld hx hb hK hP 2 rfl (j := k) hp0 (by omega) (by decide) dX4_readsNumber_42 ?_
        refine lv_imul hx hb dX4_readsNumber_43 ?_
        refine lv_aload_n hx hb dX4_readsNumber_44 rfl (lv_at hl 1 rfl) ?_
        refine xc_Vi (As := []) (rest := [.int (10 * (f k)), .int p0, .ref a8]) ⟨hx, hb, hml, hown, hts⟩ (kX4_here l D cI a0 a1 a2 a3 a4 a5 a6 a7 a8 gg mm hL96 (q0 + i) (by omega)) (cwV 0 hts gX4_readsNumber_X4_here rfl rfl rfl hv_X4_here ⟨Nat.le_of_ble_eq_true rfl, Nat.le_of_ble_eq_true rfl⟩) hK hP [0, 1] rfl 0 rfl rfl rfl hl.1 rfl (Nat.le_of_ble_eq_true rfl) dX4_readsNumber_45 ⟨Nat.zero_le _, Nat.zero_le _⟩ (fun r_7 hr_7 => ?_)
        refine lv_iadd hx hb dX4_readsNumber_48 ?_
        refine lv_bipush (v := 48) hx hb dX4_readsNumber_49 (by decide) ?_
        refine lv_isub hx hb dX4_readsNumber_51 ?_
        refine xa_st hx hb hK hP hD hS 2 rfl (j := k) hp0 (by omega) (by decide) dX4_readsNumber_52 (fun H locs hP hD hS => ?_)
        obtain ⟨f_8, ef_8⟩ : ∃ z : Nat → Int32, z = upd f k (((10 * (f k)) + r_7) - 48) := ⟨_, rfl⟩
        replace hP : va_P D vwCl [(a0, .inr (3, [.ref a1, .ref a2, .ref a3, .ref a4, .int gg.hs, .ref a5, .ref a6, .ref a7, .int (nI gg.L), .int (nI gg.M), .int (nI (q0 + i)), .ref a8, .int mm.sd])), (a5, .inl (cI, 96, .inl gg.lt)), (a8, .inl (cI, 3, .inl (upd f k (((10 * (f k)) + r_7) - 48))))] H := hP
        replace hD : va_D A [(a0, .inr (3, [.ref a1, .ref a2, .ref a3, .ref a4, .int gg.hs, .ref a5, .ref a6, .ref a7, .int (nI gg.L), .int (nI gg.M), .int (nI (q0 + i)), .ref a8, .int mm.sd])), (a5, .inl (cI, 96, .inl gg.lt)), (a8, .inl (cI, 3, .inl (upd f k (((10 * (f k)) + r_7) - 48))))] := hD
        rw [← ef_8] at hP hD
        refine lv_aload_n hx hb dX4_readsNumber_53 rfl (lv_at hl 1 rfl) ?_
        refine lv_dup hx hb dX4_readsNumber_54 rfl ?_
        refine va_get (D := D) (ci := 3) (v := .int (nI (q0 + i))) (C := RX4) (T := TX4) (N := 13) hx hb hts hi_X4 hown hK.1 hP 0 rfl rfl 10 (by decide) hk_103 (fun _ h9 => h9) rfl dX4_readsNumber_55 ?_
        refine lv_iconst (v := 1) hx hb dX4_readsNumber_58 (by decide) ?_
        refine lv_iadd hx hb dX4_readsNumber_59 ?_
        refine lv_topi (fun z_9 ez_9 => ?_)
        obtain rfl : z_9 = nI ((q0 + i) + 1) := ez_9.trans (ni_add (a := (q0 + i)) (b := 1) rfl rfl (rfl : (1 : Int32) = nI 1))
        refine va_put (D := D) (ci := 3) (v := .int (nI ((q0 + i) + 1))) (ty := .int) (C := RX4) (T := TX4) (N := 13) hx hb hts hi_X4 tyX4 tyX4_ok nmX4 hown hK.1 hP hD hS 0 rfl rfl 10 (by decide) hk_103 (fun _ h9 => h9) rfl pd_I rfl rfl (Nat.le_of_ble_eq_true rfl) dX4_readsNumber_60 (fun H locs hP hD hS => ?_)
        have hP : va_P D vwCl [(a0, .inr (3, [.ref a1, .ref a2, .ref a3, .ref a4, .int gg.hs, .ref a5, .ref a6, .ref a7, .int (nI gg.L), .int (nI gg.M), .int (nI ((q0 + i) + 1)), .ref a8, .int mm.sd])), (a5, .inl (cI, 96, .inl gg.lt)), (a8, .inl (cI, 3, .inl f_8))] H := hP
        have hD : va_D A [(a0, .inr (3, [.ref a1, .ref a2, .ref a3, .ref a4, .int gg.hs, .ref a5, .ref a6, .ref a7, .int (nI gg.L), .int (nI gg.M), .int (nI ((q0 + i) + 1)), .ref a8, .int mm.sd])), (a5, .inl (cI, 96, .inl gg.lt)), (a8, .inl (cI, 3, .inl f_8))] := hD
        obtain ⟨x_10, ex_10⟩ : ∃ z : Int32, z = x3 + 1 := ⟨_, rfl⟩
        refine lv_iinc (v := x_10) (lv' := [(3, .int x_10), (0, .ref a0), (1, .int p0), (2, .int p1)]) hx hb dX4_readsNumber_63 hl (k := 0) rfl (by rw [ex_10]; rfl) (by decide) rfl (fun ls hl => ?_)
        refine lv_goto (tgt := 9) hx hb dX4_readsNumber_66 (by decide) ?_
        exact ih_2 (i + 1) x_10 f_8 _ _ _ (by omega) (ni_add (a := i) (b := 1) ex_10 hx3 (rfl : (1 : Int32) = nI 1)) (by omega) (lt_s hj (by rw [ndB, ← hr_4, hb_6]; rfl)) (by rw [numN, ← hf, ← hr_7]; exact ef_8) hP hD hS (lv_sub hl [0, 1, 2, 3] rfl)
      have hb_6 : isI r_4 48 57 = false := bool_f (hr_5.trans isI_ite) c_6
      refine lv_iconst (v := 0) hx hb dX4_readsNumber_28 (by decide) ?_
      exact hret 29 _ 0 (q0 + i, f) _ _ dX4_readsNumber_29 (Or.inr ⟨rfl, i, by omega, by rw [ndB, ← hr_4, hb_6]; rfl, hj, rfl⟩) hP hD hS
  exact lp_9_2 ((d - 0) + 1) 0 0 f_1 _ _ _ (by omega) (rfl : (0 : Int32) = nI 0) (by omega) (fun j hj => absurd hj (Nat.not_lt_zero _)) ef_1 hP hD hS (lv_sub hl [0, 1, 2, 3] rfl)

set_option maxHeartbeats 4000000 in
set_option maxRecDepth 100000 in
theorem kX4_readsKind (l : Launch) (D : va_G) (cI : ClassId) (sz : Nat) (a0 a1 a2 a3 a4 a5 a6 a7 a8 : Nat) (gg : GG) (mm : MS) (hL96 : gg.L ≤ 96) (q0 : Nat) (hp9 : q0 ≤ 900) (nb : RR) : Met l yX4_readsKind wsX4_readsKind ({ frames := 1, cells := 0, slots := 0, locals := 20 }) (PRW D cI [.ref a0] [(a0, .inr (3, [.ref a1, .ref a2, .ref a3, .ref a4, .int gg.hs, .ref a5, .ref a6, .ref a7, .int (nI gg.L), .int (nI gg.M), .int (nI q0), .ref a8, .int mm.sd])), (a5, .inl (cI, 96, .inl gg.lt)), (a8, .inl (cI, 3, .inl nb))] sz) (va_Qi (S := Nat × RR) (fun v u => (¬ kndOf (hrF gg.lt gg.L q0) < 0 ∧ v = 1 ∧ u = (q0 + 1, upd nb 0 (kndOf (hrF gg.lt gg.L q0)))) ∨ (kndOf (hrF gg.lt gg.L q0) < 0 ∧ v = 0 ∧ u.1 = q0)) (BRW D [(a0, .inr (3, [.ref a1, .ref a2, .ref a3, .ref a4, .int gg.hs, .ref a5, .ref a6, .ref a7, .int (nI gg.L), .int (nI gg.M), .int (nI q0), .ref a8, .int mm.sd])), (a5, .inl (cI, 96, .inl gg.lt)), (a8, .inl (cI, 3, .inl nb))] sz (fun u => [(a0, .inr (3, [.ref a1, .ref a2, .ref a3, .ref a4, .int gg.hs, .ref a5, .ref a6, .ref a7, .int (nI gg.L), .int (nI gg.M), .int (nI u.1), .ref a8, .int mm.sd])), (a5, .inl (cI, 96, .inl gg.lt)), (a8, .inl (cI, 3, .inl u.2))])) (va_A [(a0, .inr (3, [.ref a1, .ref a2, .ref a3, .ref a4, .int gg.hs, .ref a5, .ref a6, .ref a7, .int (nI gg.L), .int (nI gg.M), .int (nI q0), .ref a8, .int mm.sd])), (a5, .inl (cI, 96, .inl gg.lt)), (a8, .inl (cI, 3, .inl nb))] sz)) 0 0 (va_A [(a0, .inr (3, [.ref a1, .ref a2, .ref a3, .ref a4, .int gg.hs, .ref a5, .ref a6, .ref a7, .int (nI gg.L), .int (nI gg.M), .int (nI q0), .ref a8, .int mm.sd])), (a5, .inl (cI, 96, .inl gg.lt)), (a8, .inl (cI, 3, .inl nb))] sz) := by
  refine st_rwi (cc := cX4_readsKind) (maxL := 1) (rt := .boolean) (by decide) rfl (Nat.le_of_ble_eq_true rfl) (by rintro v u (⟨_, h, _⟩ | ⟨_, h, _⟩) <;> (subst h; rfl)) ?_
  intro p e s m below meth c Q ls A hx hb hml hts hown hP hK hD hA hS hl hret
  replace hown : s.vm.findClass RX4 = some m.cls := hown
  replace hl : lv_has ls 1 [(0, .ref a0)] := hl
  obtain ⟨H, hH⟩ : ∃ z, z = s.heap := ⟨_, rfl⟩
  obtain ⟨locs, hlo⟩ : ∃ z : List Loc, z = [] := ⟨_, rfl⟩
  replace hP : va_P D vwCl [(a0, .inr (3, [.ref a1, .ref a2, .ref a3, .ref a4, .int gg.hs, .ref a5, .ref a6, .ref a7, .int (nI gg.L), .int (nI gg.M), .int (nI q0), .ref a8, .int mm.sd])), (a5, .inl (cI, 96, .inl gg.lt)), (a8, .inl (cI, 3, .inl nb))] H := by rw [hH]; exact hP
  replace hS : va_S A s.heap H locs := by rw [hH, hlo]; exact hS
  show W p l e ({ frames := 1, cells := 0, slots := 0, locals := 20 }) s m [.ref a0].toArray below meth c s.heap [] 0 0 Q (F0 m 0 ls [])
  rw [← hlo]
  suffices hgo : W p l e ({ frames := 1, cells := 0, slots := 0, locals := 20 }) s m [.ref a0].toArray below meth c H locs 0 0 Q (F0 m 0 ls []) by rw [hH] at hgo; exact hgo
  clear hH hlo
  have hi_X4 : ∀ w ∈ wsX40, w ∈ wsX4_readsKind := fun w h => List.mem_cons_of_mem _ (List.mem_append_right _ (h))
  have hk_31 := hts (.fieldLink RX4 31 "NestsOfTalkModel" "numbers" "[I") (List.mem_of_getElem? (i := 1) rfl)
  have hk_103 := hts (.fieldLink RX4 103 "NestsOfTalkModel" "place" "I") (List.mem_of_getElem? (i := 2) rfl)
  refine lv_aload_n hx hb dX4_readsKind_0 rfl (lv_at hl 0 rfl) ?_
  refine va_get (D := D) (ci := 3) (v := .ref a8) (C := RX4) (T := TX4) (N := 13) hx hb hts hi_X4 hown hK.1 hP 0 rfl rfl 11 (by decide) hk_31 (fun _ h9 => h9) rfl dX4_readsKind_1 ?_
  refine lv_iconst (v := 0) hx hb dX4_readsKind_4 (by decide) ?_
  refine lv_aload_n hx hb dX4_readsKind_5 rfl (lv_at hl 0 rfl) ?_
  refine xc_Vi (As := []) (rest := [.int 0, .ref a8]) ⟨hx, hb, hml, hown, hts⟩ (kX4_here l D cI a0 a1 a2 a3 a4 a5 a6 a7 a8 gg mm hL96 q0 (by omega)) (cwV 0 hts gX4_readsKind_X4_here rfl rfl rfl hv_X4_here ⟨Nat.le_of_ble_eq_true rfl, Nat.le_of_ble_eq_true rfl⟩) hK hP [0, 1] rfl 0 rfl rfl rfl hl.1 rfl (Nat.le_of_ble_eq_true rfl) dX4_readsKind_6 ⟨Nat.zero_le _, Nat.zero_le _⟩ (fun r_1 hr_1 => ?_)
  refine xc_Si (As := [.int r_1]) (rest := [.int 0, .ref a8]) ⟨hx, hb, hml, hown, hts⟩ (kX4_kindBy l D cI r_1) (va_cwS 1 hts gX4_readsKind_X4_kindBy rfl rfl rfl hs_X4_kindBy ⟨Nat.le_of_ble_eq_true rfl, Nat.le_of_ble_eq_true rfl⟩) hK hP [] rfl rfl hl.1 rfl (Nat.le_of_ble_eq_true rfl) dX4_readsKind_9 ⟨Nat.zero_le _, Nat.zero_le _⟩ (fun r_2 hr_2 => ?_)
  refine xa_st hx hb hK hP hD hS 2 rfl (j := 0) (rfl : (0 : Int32) = nI 0) (by omega) (by decide) dX4_readsKind_12 (fun H locs hP hD hS => ?_)
  obtain ⟨f_3, ef_3⟩ : ∃ z : Nat → Int32, z = upd nb 0 r_2 := ⟨_, rfl⟩
  replace hP : va_P D vwCl [(a0, .inr (3, [.ref a1, .ref a2, .ref a3, .ref a4, .int gg.hs, .ref a5, .ref a6, .ref a7, .int (nI gg.L), .int (nI gg.M), .int (nI q0), .ref a8, .int mm.sd])), (a5, .inl (cI, 96, .inl gg.lt)), (a8, .inl (cI, 3, .inl (upd nb 0 r_2)))] H := hP
  replace hD : va_D A [(a0, .inr (3, [.ref a1, .ref a2, .ref a3, .ref a4, .int gg.hs, .ref a5, .ref a6, .ref a7, .int (nI gg.L), .int (nI gg.M), .int (nI q0), .ref a8, .int mm.sd])), (a5, .inl (cI, 96, .inl gg.lt)), (a8, .inl (cI, 3, .inl (upd nb 0 r_2)))] := hD
  rw [← ef_3] at hP hD
  refine lv_aload_n hx hb dX4_readsKind_13 rfl (lv_at hl 0 rfl) ?_
  refine lv_dup hx hb dX4_readsKind_14 rfl ?_
  refine va_get (D := D) (ci := 3) (v := .int (nI q0)) (C := RX4) (T := TX4) (N := 13) hx hb hts hi_X4 hown hK.1 hP 0 rfl rfl 10 (by decide) hk_103 (fun _ h9 => h9) rfl dX4_readsKind_15 ?_
  refine lv_aload_n hx hb dX4_readsKind_18 rfl (lv_at hl 0 rfl) ?_
  refine va_get (D := D) (ci := 3) (v := .ref a8) (C := RX4) (T := TX4) (N := 13) hx hb hts hi_X4 hown hK.1 hP 0 rfl rfl 11 (by decide) hk_31 (fun _ h9 => h9) rfl dX4_readsKind_19 ?_
  refine lv_iconst (v := 0) hx hb dX4_readsKind_22 (by decide) ?_
  refine xa_ld hx hb hK hP 2 rfl (j := 0) (rfl : (0 : Int32) = nI 0) (by omega) (by decide) dX4_readsKind_23 ?_
  refine lv_if_ge (tgt := 31) hx hb dX4_readsKind_24 (by decide) (fun c_4 => ?_) (fun c_4 => ?_)
  · skip
    refine lv_iconst (v := 1) hx hb dX4_readsKind_31 (by decide) ?_
    refine lv_iadd hx hb dX4_readsKind_32 ?_
    refine lv_topi (fun z_5 ez_5 => ?_)
    obtain rfl : z_5 = nI (q0 + 1) := ez_5.trans (ni_add (a := q0) (b := 1) rfl rfl (rfl : (1 : Int32) = nI 1))
    refine va_put (D := D) (ci := 3) (v := .int (nI (q0 + 1))) (ty := .int) (C := RX4) (T := TX4) (N := 13) hx hb hts hi_X4 tyX4 tyX4_ok nmX4 hown hK.1 hP hD hS 0 rfl rfl 10 (by decide) hk_103 (fun _ h9 => h9) rfl pd_I rfl rfl (Nat.le_of_ble_eq_true rfl) dX4_readsKind_33 (fun H locs hP hD hS => ?_)
    have hP : va_P D vwCl [(a0, .inr (3, [.ref a1, .ref a2, .ref a3, .ref a4, .int gg.hs, .ref a5, .ref a6, .ref a7, .int (nI gg.L), .int (nI gg.M), .int (nI (q0 + 1)), .ref a8, .int mm.sd])), (a5, .inl (cI, 96, .inl gg.lt)), (a8, .inl (cI, 3, .inl f_3))] H := hP
    have hD : va_D A [(a0, .inr (3, [.ref a1, .ref a2, .ref a3, .ref a4, .int gg.hs, .ref a5, .ref a6, .ref a7, .int (nI gg.L), .int (nI gg.M), .int (nI (q0 + 1)), .ref a8, .int mm.sd])), (a5, .inl (cI, 96, .inl gg.lt)), (a8, .inl (cI, 3, .inl f_3))] := hD
    refine lv_aload_n hx hb dX4_readsKind_36 rfl (lv_at hl 0 rfl) ?_
    refine va_get (D := D) (ci := 3) (v := .ref a8) (C := RX4) (T := TX4) (N := 13) hx hb hts hi_X4 hown hK.1 hP 0 rfl rfl 11 (by decide) hk_31 (fun _ h9 => h9) rfl dX4_readsKind_37 ?_
    refine lv_iconst (v := 0) hx hb dX4_readsKind_40 (by decide) ?_
    refine xa_ld hx hb hK hP 2 rfl (j := 0) (rfl : (0 : Int32) = nI 0) (by omega) (by decide) dX4_readsKind_41 ?_
    refine lv_if_lt (tgt := 49) hx hb dX4_readsKind_42 (by decide) (fun c_6 => ?_) (fun c_6 => ?_)
    · skip
      exact absurd c_6 (Int32.not_lt.2 c_4)
    refine lv_iconst (v := 1) hx hb dX4_readsKind_45 (by decide) ?_
    refine lv_goto (tgt := 50) hx hb dX4_readsKind_46 (by decide) ?_
    exact hret 50 _ 1 ((q0 + 1), f_3) _ _ dX4_readsKind_50 (Or.inl ⟨by have z := c_6; rw [ef_3, us, hr_2, hr_1] at z; exact z, rfl, by rw [ef_3, hr_2, hr_1]⟩) hP hD hS
  refine lv_iconst (v := 0) hx hb dX4_readsKind_27 (by decide) ?_
  refine lv_goto (tgt := 32) hx hb dX4_readsKind_28 (by decide) ?_
  refine lv_iadd hx hb dX4_readsKind_32 ?_
  refine lv_topi (fun z_7 ez_7 => ?_)
  obtain rfl : z_7 = nI (q0 + 0) := ez_7.trans (ni_add (a := q0) (b := 0) rfl rfl (rfl : (0 : Int32) = nI 0))
  refine va_put (D := D) (ci := 3) (v := .int (nI (q0 + 0))) (ty := .int) (C := RX4) (T := TX4) (N := 13) hx hb hts hi_X4 tyX4 tyX4_ok nmX4 hown hK.1 hP hD hS 0 rfl rfl 10 (by decide) hk_103 (fun _ h9 => h9) rfl pd_I rfl rfl (Nat.le_of_ble_eq_true rfl) dX4_readsKind_33 (fun H locs hP hD hS => ?_)
  have hP : va_P D vwCl [(a0, .inr (3, [.ref a1, .ref a2, .ref a3, .ref a4, .int gg.hs, .ref a5, .ref a6, .ref a7, .int (nI gg.L), .int (nI gg.M), .int (nI (q0 + 0)), .ref a8, .int mm.sd])), (a5, .inl (cI, 96, .inl gg.lt)), (a8, .inl (cI, 3, .inl f_3))] H := hP
  have hD : va_D A [(a0, .inr (3, [.ref a1, .ref a2, .ref a3, .ref a4, .int gg.hs, .ref a5, .ref a6, .ref a7, .int (nI gg.L), .int (nI gg.M), .int (nI (q0 + 0)), .ref a8, .int mm.sd])), (a5, .inl (cI, 96, .inl gg.lt)), (a8, .inl (cI, 3, .inl f_3))] := hD
  refine lv_aload_n hx hb dX4_readsKind_36 rfl (lv_at hl 0 rfl) ?_
  refine va_get (D := D) (ci := 3) (v := .ref a8) (C := RX4) (T := TX4) (N := 13) hx hb hts hi_X4 hown hK.1 hP 0 rfl rfl 11 (by decide) hk_31 (fun _ h9 => h9) rfl dX4_readsKind_37 ?_
  refine lv_iconst (v := 0) hx hb dX4_readsKind_40 (by decide) ?_
  refine xa_ld hx hb hK hP 2 rfl (j := 0) (rfl : (0 : Int32) = nI 0) (by omega) (by decide) dX4_readsKind_41 ?_
  refine lv_if_lt (tgt := 49) hx hb dX4_readsKind_42 (by decide) (fun c_8 => ?_) (fun c_8 => ?_)
  · skip
    refine lv_iconst (v := 0) hx hb dX4_readsKind_49 (by decide) ?_
    exact hret 50 _ 0 ((q0 + 0), f_3) _ _ dX4_readsKind_50 (Or.inr ⟨by have z := c_8; rw [ef_3, us, hr_2, hr_1] at z; exact z, rfl, rfl⟩) hP hD hS
  exact absurd (Int32.not_le.1 c_4) c_8

set_option maxHeartbeats 4000000 in
set_option maxRecDepth 100000 in
theorem kX4_readsStatement (l : Launch) (D : va_G) (cI : ClassId) (sz : Nat) (a0 a1 a2 a3 a4 a5 a6 a7 a8 : Nat) (gg : GG) (mm : MS) (hL96 : gg.L ≤ 96) (q0 : Nat) (hp9 : q0 ≤ 800) (nb : RR) : Met l yX4_readsStatement wsX4_readsStatement ({ frames := 2, cells := 0, slots := 0, locals := 45 }) (PRW D cI [.ref a0] [(a0, .inr (3, [.ref a1, .ref a2, .ref a3, .ref a4, .int gg.hs, .ref a5, .ref a6, .ref a7, .int (nI gg.L), .int (nI gg.M), .int (nI q0), .ref a8, .int mm.sd])), (a5, .inl (cI, 96, .inl gg.lt)), (a8, .inl (cI, 3, .inl nb))] sz) (va_Qi (S := Nat × RR) (fun v u => v = (if (rsF (hrF gg.lt gg.L) q0).1 = true then 1 else 0) ∧ u.1 = (rsF (hrF gg.lt gg.L) q0).2 ∧ ((rsF (hrF gg.lt gg.L) q0).1 = true → nbO (hrF gg.lt gg.L) q0 u.2)) (BRW D [(a0, .inr (3, [.ref a1, .ref a2, .ref a3, .ref a4, .int gg.hs, .ref a5, .ref a6, .ref a7, .int (nI gg.L), .int (nI gg.M), .int (nI q0), .ref a8, .int mm.sd])), (a5, .inl (cI, 96, .inl gg.lt)), (a8, .inl (cI, 3, .inl nb))] sz (fun u => [(a0, .inr (3, [.ref a1, .ref a2, .ref a3, .ref a4, .int gg.hs, .ref a5, .ref a6, .ref a7, .int (nI gg.L), .int (nI gg.M), .int (nI u.1), .ref a8, .int mm.sd])), (a5, .inl (cI, 96, .inl gg.lt)), (a8, .inl (cI, 3, .inl u.2))])) (va_A [(a0, .inr (3, [.ref a1, .ref a2, .ref a3, .ref a4, .int gg.hs, .ref a5, .ref a6, .ref a7, .int (nI gg.L), .int (nI gg.M), .int (nI q0), .ref a8, .int mm.sd])), (a5, .inl (cI, 96, .inl gg.lt)), (a8, .inl (cI, 3, .inl nb))] sz)) 0 0 (va_A [(a0, .inr (3, [.ref a1, .ref a2, .ref a3, .ref a4, .int gg.hs, .ref a5, .ref a6, .ref a7, .int (nI gg.L), .int (nI gg.M), .int (nI q0), .ref a8, .int mm.sd])), (a5, .inl (cI, 96, .inl gg.lt)), (a8, .inl (cI, 3, .inl nb))] sz) := by
  refine st_rwi (cc := cX4_readsStatement) (maxL := 3) (rt := .boolean) (by decide) rfl (Nat.le_of_ble_eq_true rfl) (by rintro v u ⟨h, _⟩; subst h; split <;> rfl) ?_
  intro p e s m below meth c Q ls A hx hb hml hts hown hP hK hD hA hS hl hret
  replace hown : s.vm.findClass RX4 = some m.cls := hown
  replace hl : lv_has ls 3 [(0, .ref a0)] := hl
  obtain ⟨H, hH⟩ : ∃ z, z = s.heap := ⟨_, rfl⟩
  obtain ⟨locs, hlo⟩ : ∃ z : List Loc, z = [] := ⟨_, rfl⟩
  replace hP : va_P D vwCl [(a0, .inr (3, [.ref a1, .ref a2, .ref a3, .ref a4, .int gg.hs, .ref a5, .ref a6, .ref a7, .int (nI gg.L), .int (nI gg.M), .int (nI q0), .ref a8, .int mm.sd])), (a5, .inl (cI, 96, .inl gg.lt)), (a8, .inl (cI, 3, .inl nb))] H := by rw [hH]; exact hP
  replace hS : va_S A s.heap H locs := by rw [hH, hlo]; exact hS
  show W p l e ({ frames := 2, cells := 0, slots := 0, locals := 45 }) s m [.ref a0].toArray below meth c s.heap [] 0 0 Q (F0 m 0 ls [])
  rw [← hlo]
  suffices hgo : W p l e ({ frames := 2, cells := 0, slots := 0, locals := 45 }) s m [.ref a0].toArray below meth c H locs 0 0 Q (F0 m 0 ls []) by rw [hH] at hgo; exact hgo
  clear hH hlo
  have hi_X4 : ∀ w ∈ wsX40, w ∈ wsX4_readsStatement := fun w h => List.mem_cons_of_mem _ (List.mem_append_right _ (h))
  have hk_103 := hts (.fieldLink RX4 103 "NestsOfTalkModel" "place" "I") (List.mem_of_getElem? (i := 1) rfl)
  refine lv_aload_n hx hb dX4_readsStatement_0 rfl (lv_at hl 0 rfl) ?_
  refine xc_Vi (As := []) (rest := []) ⟨hx, hb, hml, hown, hts⟩ (kX4_here l D cI a0 a1 a2 a3 a4 a5 a6 a7 a8 gg mm hL96 q0 (by omega)) (cwV 0 hts gX4_readsStatement_X4_here rfl rfl rfl hv_X4_here ⟨Nat.le_of_ble_eq_true rfl, Nat.le_of_ble_eq_true rfl⟩) hK hP [0, 1] rfl 0 rfl rfl rfl hl.1 rfl (Nat.le_of_ble_eq_true rfl) dX4_readsStatement_1 ⟨Nat.zero_le _, Nat.zero_le _⟩ (fun r_1 hr_1 => ?_)
  refine lv_istore_n (lv' := [(1, .int r_1), (0, .ref a0)]) hx hb dX4_readsStatement_4 rfl hl (by decide) rfl (fun ls hl => ?_)
  refine lv_aload_n hx hb dX4_readsStatement_5 rfl (lv_at hl 1 rfl) ?_
  refine lv_dup hx hb dX4_readsStatement_6 rfl ?_
  refine va_get (D := D) (ci := 3) (v := .int (nI q0)) (C := RX4) (T := TX4) (N := 13) hx hb hts hi_X4 hown hK.1 hP 0 rfl rfl 10 (by decide) hk_103 (fun _ h9 => h9) rfl dX4_readsStatement_7 ?_
  refine lv_iconst (v := 1) hx hb dX4_readsStatement_10 (by decide) ?_
  refine lv_iadd hx hb dX4_readsStatement_11 ?_
  refine lv_topi (fun z_2 ez_2 => ?_)
  obtain rfl : z_2 = nI (q0 + 1) := ez_2.trans (ni_add (a := q0) (b := 1) rfl rfl (rfl : (1 : Int32) = nI 1))
  refine va_put (D := D) (ci := 3) (v := .int (nI (q0 + 1))) (ty := .int) (C := RX4) (T := TX4) (N := 13) hx hb hts hi_X4 tyX4 tyX4_ok nmX4 hown hK.1 hP hD hS 0 rfl rfl 10 (by decide) hk_103 (fun _ h9 => h9) rfl pd_I rfl rfl (Nat.le_of_ble_eq_true rfl) dX4_readsStatement_12 (fun H locs hP hD hS => ?_)
  have hP : va_P D vwCl [(a0, .inr (3, [.ref a1, .ref a2, .ref a3, .ref a4, .int gg.hs, .ref a5, .ref a6, .ref a7, .int (nI gg.L), .int (nI gg.M), .int (nI (q0 + 1)), .ref a8, .int mm.sd])), (a5, .inl (cI, 96, .inl gg.lt)), (a8, .inl (cI, 3, .inl nb))] H := hP
  have hD : va_D A [(a0, .inr (3, [.ref a1, .ref a2, .ref a3, .ref a4, .int gg.hs, .ref a5, .ref a6, .ref a7, .int (nI gg.L), .int (nI gg.M), .int (nI (q0 + 1)), .ref a8, .int mm.sd])), (a5, .inl (cI, 96, .inl gg.lt)), (a8, .inl (cI, 3, .inl nb))] := hD
  refine lv_iload_n hx hb dX4_readsStatement_15 rfl (lv_at hl 0 rfl) ?_
  by_cases c_3 : r_1 = 97
  · refine xs_lin (k := 97) (off := 104) (tgt := 120) hx hb dX4_readsStatement_16 c_3 (by decide) (by decide) (by decide) ?_
    refine lv_aload_n hx hb dX4_readsStatement_120 rfl (lv_at hl 1 rfl) ?_
    refine lv_iconst (v := 0) hx hb dX4_readsStatement_121 (by decide) ?_
    refine lv_iconst (v := 1) hx hb dX4_readsStatement_122 (by decide) ?_
    refine xw_Vi (As := [.int 0, .int 1]) (rest := []) (Wn := fun u => [(a0, .inr (3, [.ref a1, .ref a2, .ref a3, .ref a4, .int gg.hs, .ref a5, .ref a6, .ref a7, .int (nI gg.L), .int (nI gg.M), .int (nI u.1), .ref a8, .int mm.sd])), (a5, .inl (cI, 96, .inl gg.lt)), (a8, .inl (cI, 3, .inl u.2))]) (Wr := []) ⟨hx, hb, hml, hown, hts⟩ (kX4_readsNumber l D cI H.size a0 a1 a2 a3 a4 a5 a6 a7 a8 gg mm hL96 (q0 + 1) (by omega) nb 0 1 0 1 rfl (by omega) rfl (by omega)) (cwV 2 hts gX4_readsStatement_X4_readsNumber rfl rfl rfl hv_X4_readsNumber ⟨Nat.le_of_ble_eq_true rfl, Nat.le_of_ble_eq_true rfl⟩) hK hP hD hS hA [0, 1, 2] [] [0, 1, 2] rfl rfl (by decide) (by decide) (by decide) (by decide) (fun u => rfl) 0 rfl rfl rfl hl.1 rfl (Nat.le_of_ble_eq_true rfl) dX4_readsStatement_123 ⟨Nat.zero_le _, Nat.zero_le _⟩ (fun r_4 u_4 H locs hw_4 hP hD hS => ?_)
    refine lv_if_eq (tgt := 142) hx hb dX4_readsStatement_126 (by decide) (fun c_5 => ?_) (fun c_5 => ?_)
    · skip
      obtain ⟨iq, hiq, hq_4, hqj_4, h1_4⟩ : ∃ i, i < 1 ∧ ndB gg.lt gg.L (q0 + 1) i = true ∧ (∀ j, j < i → ndB gg.lt gg.L (q0 + 1) j = false) ∧ u_4.1 = (q0 + 1) + i := by
        rcases hw_4 with q | q
        · exact absurd (q.1.symm.trans c_5) (by decide)
        · exact q.2
      have hd_4 : isI (hrF gg.lt gg.L (q0 + 1)) 48 57 = false := by
        have z := hq_4
        rw [ndB, show (q0 + 1) + iq = q0 + 1 by omega] at z
        simpa using z
      have hpl : u_4.1 = q0 + 1 := by omega
      refine lv_iconst (v := 0) hx hb dX4_readsStatement_142 (by decide) ?_
      refine lv_istore_n (lv' := [(2, .int 0), (1, .int r_1), (0, .ref a0)]) hx hb dX4_readsStatement_143 rfl hl (by decide) rfl (fun ls hl => ?_)
      refine lv_goto (tgt := 169) hx hb dX4_readsStatement_144 (by decide) ?_
      refine lv_iload_n hx hb dX4_readsStatement_169 rfl (lv_at hl 0 rfl) ?_
      refine lv_if_eq (tgt := 182) hx hb dX4_readsStatement_170 (by decide) (fun c_6 => ?_) (fun c_6 => ?_)
      · skip
        refine lv_iconst (v := 0) hx hb dX4_readsStatement_182 (by decide) ?_
        exact hret 183 _ 0 (u_4.1, u_4.2) _ _ dX4_readsStatement_183 (by rw [hr_1] at c_3; refine ⟨?_, ?_, ?_⟩ <;> simp [rsF, hpl, c_3, hd_4]) hP hD hS
      exact absurd c_6 (by decide)
    obtain ⟨hq_4, hu_4⟩ : (∀ j, j < 1 → ndB gg.lt gg.L (q0 + 1) j = false) ∧ u_4 = ((q0 + 1) + 1, numN gg.lt gg.L 0 nb (q0 + 1) 1) := by
      rcases hw_4 with q | q
      · exact q.2
      · exact absurd q.1 c_5
    have h1_4 : u_4.1 = (q0 + 1) + 1 := by rw [hu_4]
    have hd_4_0 : isI (hrF gg.lt gg.L (q0 + 1)) 48 57 = true := by
      have z := hq_4 0 (by omega)
      rw [ndB, show (q0 + 1) + 0 = q0 + 1 by omega] at z
      simpa using z
    have hv_4_0 : u_4.2 0 = hrF gg.lt gg.L (q0 + 1) - 48 := by rw [hu_4]; show numN gg.lt gg.L 0 nb (q0 + 1) 1 0 = _; first | exact numN_1 _ _ _ _ _ | rw [numN_1, show (q0 + 1) = q0 + 1 by omega]
    refine lv_aload_n hx hb dX4_readsStatement_129 rfl (lv_at hl 1 rfl) ?_
    refine lv_iconst (v := 1) hx hb dX4_readsStatement_130 (by decide) ?_
    refine lv_iconst (v := 1) hx hb dX4_readsStatement_131 (by decide) ?_
    refine xw_Vi (As := [.int 1, .int 1]) (rest := []) (Wn := fun u => [(a0, .inr (3, [.ref a1, .ref a2, .ref a3, .ref a4, .int gg.hs, .ref a5, .ref a6, .ref a7, .int (nI gg.L), .int (nI gg.M), .int (nI u.1), .ref a8, .int mm.sd])), (a5, .inl (cI, 96, .inl gg.lt)), (a8, .inl (cI, 3, .inl u.2))]) (Wr := []) ⟨hx, hb, hml, hown, hts⟩ (kX4_readsNumber l D cI H.size a0 a1 a2 a3 a4 a5 a6 a7 a8 gg mm hL96 u_4.1 (by omega) u_4.2 1 1 1 1 rfl (by omega) rfl (by omega)) (cwV 2 hts gX4_readsStatement_X4_readsNumber rfl rfl rfl hv_X4_readsNumber ⟨Nat.le_of_ble_eq_true rfl, Nat.le_of_ble_eq_true rfl⟩) hK hP hD hS hA [0, 1, 2] [] [0, 1, 2] rfl rfl (by decide) (by decide) (by decide) (by decide) (fun u => rfl) 0 rfl rfl rfl hl.1 rfl (Nat.le_of_ble_eq_true rfl) dX4_readsStatement_132 ⟨Nat.zero_le _, Nat.zero_le _⟩ (fun r_7 u_7 H locs hw_7 hP hD hS => ?_)
    refine lv_if_eq (tgt := 142) hx hb dX4_readsStatement_135 (by decide) (fun c_8 => ?_) (fun c_8 => ?_)
    · skip
      obtain ⟨iq, hiq, hq_7, hqj_7, h1_7⟩ : ∃ i, i < 1 ∧ ndB gg.lt gg.L u_4.1 i = true ∧ (∀ j, j < i → ndB gg.lt gg.L u_4.1 j = false) ∧ u_7.1 = u_4.1 + i := by
        rcases hw_7 with q | q
        · exact absurd (q.1.symm.trans c_8) (by decide)
        · exact q.2
      have hd_7 : isI (hrF gg.lt gg.L (q0 + 2)) 48 57 = false := by
        have z := hq_7
        rw [ndB, show u_4.1 + iq = q0 + 2 by omega] at z
        simpa using z
      have hpl : u_7.1 = q0 + 2 := by omega
      refine lv_iconst (v := 0) hx hb dX4_readsStatement_142 (by decide) ?_
      refine lv_istore_n (lv' := [(2, .int 0), (1, .int r_1), (0, .ref a0)]) hx hb dX4_readsStatement_143 rfl hl (by decide) rfl (fun ls hl => ?_)
      refine lv_goto (tgt := 169) hx hb dX4_readsStatement_144 (by decide) ?_
      refine lv_iload_n hx hb dX4_readsStatement_169 rfl (lv_at hl 0 rfl) ?_
      refine lv_if_eq (tgt := 182) hx hb dX4_readsStatement_170 (by decide) (fun c_9 => ?_) (fun c_9 => ?_)
      · skip
        refine lv_iconst (v := 0) hx hb dX4_readsStatement_182 (by decide) ?_
        exact hret 183 _ 0 (u_7.1, u_7.2) _ _ dX4_readsStatement_183 (by rw [hr_1] at c_3; refine ⟨?_, ?_, ?_⟩ <;> simp [rsF, hpl, c_3, hd_4_0, hd_7]) hP hD hS
      exact absurd c_9 (by decide)
    obtain ⟨hq_7, hu_7⟩ : (∀ j, j < 1 → ndB gg.lt gg.L u_4.1 j = false) ∧ u_7 = (u_4.1 + 1, numN gg.lt gg.L 1 u_4.2 u_4.1 1) := by
      rcases hw_7 with q | q
      · exact q.2
      · exact absurd q.1 c_8
    have h1_7 : u_7.1 = u_4.1 + 1 := by rw [hu_7]
    have hd_7_0 : isI (hrF gg.lt gg.L (q0 + 2)) 48 57 = true := by
      have z := hq_7 0 (by omega)
      rw [ndB, show u_4.1 + 0 = q0 + 2 by omega] at z
      simpa using z
    have hv_7_0 : u_7.2 0 = hrF gg.lt gg.L (q0 + 1) - 48 := by rw [hu_7]; show numN gg.lt gg.L 1 u_4.2 u_4.1 1 0 = _; rw [numN_o _ _ _ _ _ (by decide)]; exact hv_4_0
    have hv_7_1 : u_7.2 1 = hrF gg.lt gg.L (q0 + 2) - 48 := by rw [hu_7]; show numN gg.lt gg.L 1 u_4.2 u_4.1 1 1 = _; first | exact numN_1 _ _ _ _ _ | rw [numN_1, show u_4.1 = q0 + 2 by omega]
    refine lv_iconst (v := 1) hx hb dX4_readsStatement_138 (by decide) ?_
    refine lv_goto (tgt := 143) hx hb dX4_readsStatement_139 (by decide) ?_
    refine lv_istore_n (lv' := [(2, .int 1), (1, .int r_1), (0, .ref a0)]) hx hb dX4_readsStatement_143 rfl hl (by decide) rfl (fun ls hl => ?_)
    refine lv_goto (tgt := 169) hx hb dX4_readsStatement_144 (by decide) ?_
    refine lv_iload_n hx hb dX4_readsStatement_169 rfl (lv_at hl 0 rfl) ?_
    refine lv_if_eq (tgt := 182) hx hb dX4_readsStatement_170 (by decide) (fun c_10 => ?_) (fun c_10 => ?_)
    · skip
      exact absurd c_10 (by decide)
    refine lv_aload_n hx hb dX4_readsStatement_173 rfl (lv_at hl 2 rfl) ?_
    refine xc_Vi (As := []) (rest := []) ⟨hx, hb, hml, hown, hts⟩ (kX4_here l D cI a0 a1 a2 a3 a4 a5 a6 a7 a8 gg mm hL96 u_7.1 (by omega)) (cwV 0 hts gX4_readsStatement_X4_here rfl rfl rfl hv_X4_here ⟨Nat.le_of_ble_eq_true rfl, Nat.le_of_ble_eq_true rfl⟩) hK hP [0, 1] rfl 0 rfl rfl rfl hl.1 rfl (Nat.le_of_ble_eq_true rfl) dX4_readsStatement_174 ⟨Nat.zero_le _, Nat.zero_le _⟩ (fun r_11 hr_11 => ?_)
    refine lv_bipush (v := 59) hx hb dX4_readsStatement_177 (by decide) ?_
    refine lv_icmp_eq (tgt := 184) hx hb dX4_readsStatement_179 (by decide) (fun c_12 => ?_) (fun c_12 => ?_)
    · skip
      refine lv_aload_n hx hb dX4_readsStatement_184 rfl (lv_at hl 2 rfl) ?_
      refine lv_dup hx hb dX4_readsStatement_185 rfl ?_
      refine va_get (D := D) (ci := 3) (v := .int (nI u_7.1)) (C := RX4) (T := TX4) (N := 13) hx hb hts hi_X4 hown hK.1 hP 0 rfl rfl 10 (by decide) hk_103 (fun _ h9 => h9) rfl dX4_readsStatement_186 ?_
      refine lv_iconst (v := 1) hx hb dX4_readsStatement_189 (by decide) ?_
      refine lv_iadd hx hb dX4_readsStatement_190 ?_
      refine lv_topi (fun z_13 ez_13 => ?_)
      obtain rfl : z_13 = nI (u_7.1 + 1) := ez_13.trans (ni_add (a := u_7.1) (b := 1) rfl rfl (rfl : (1 : Int32) = nI 1))
      refine va_put (D := D) (ci := 3) (v := .int (nI (u_7.1 + 1))) (ty := .int) (C := RX4) (T := TX4) (N := 13) hx hb hts hi_X4 tyX4 tyX4_ok nmX4 hown hK.1 hP hD hS 0 rfl rfl 10 (by decide) hk_103 (fun _ h9 => h9) rfl pd_I rfl rfl (Nat.le_of_ble_eq_true rfl) dX4_readsStatement_191 (fun H locs hP hD hS => ?_)
      have hP : va_P D vwCl [(a0, .inr (3, [.ref a1, .ref a2, .ref a3, .ref a4, .int gg.hs, .ref a5, .ref a6, .ref a7, .int (nI gg.L), .int (nI gg.M), .int (nI (u_7.1 + 1)), .ref a8, .int mm.sd])), (a5, .inl (cI, 96, .inl gg.lt)), (a8, .inl (cI, 3, .inl u_7.2))] H := hP
      have hD : va_D A [(a0, .inr (3, [.ref a1, .ref a2, .ref a3, .ref a4, .int gg.hs, .ref a5, .ref a6, .ref a7, .int (nI gg.L), .int (nI gg.M), .int (nI (u_7.1 + 1)), .ref a8, .int mm.sd])), (a5, .inl (cI, 96, .inl gg.lt)), (a8, .inl (cI, 3, .inl u_7.2))] := hD
      refine lv_iconst (v := 1) hx hb dX4_readsStatement_194 (by decide) ?_
      exact hret 195 _ 1 ((u_7.1 + 1), u_7.2) _ _ dX4_readsStatement_195 (by rw [hr_1] at c_3; have hz := c_12; rw [hr_11, show u_7.1 = q0 + 3 by omega] at hz; have h9 : u_7.1 + 1 = q0 + 4 := (by omega); refine ⟨?_, ?_, ?_⟩ <;> simp [rsF, nbO, nbA, nbB, nbC, h9, hz, c_3, hd_4_0, hd_7_0, hv_7_0, hv_7_1]) hP hD hS
    refine lv_iconst (v := 0) hx hb dX4_readsStatement_182 (by decide) ?_
    exact hret 183 _ 0 (u_7.1, u_7.2) _ _ dX4_readsStatement_183 (by rw [hr_1] at c_3; have hz := c_12; rw [hr_11, show u_7.1 = q0 + 3 by omega] at hz; have hpl : u_7.1 = q0 + 3 := (by omega); refine ⟨?_, ?_, ?_⟩ <;> simp [rsF, hpl, hz, c_3, hd_4_0, hd_7_0]) hP hD hS
  by_cases c_14 : r_1 = 98
  · refine xs_lin (k := 98) (off := 94) (tgt := 110) hx hb dX4_readsStatement_16 c_14 (by decide) (by decide) (by decide) ?_
    refine lv_aload_n hx hb dX4_readsStatement_110 rfl (lv_at hl 1 rfl) ?_
    refine lv_iconst (v := 0) hx hb dX4_readsStatement_111 (by decide) ?_
    refine lv_iconst (v := 1) hx hb dX4_readsStatement_112 (by decide) ?_
    refine xw_Vi (As := [.int 0, .int 1]) (rest := []) (Wn := fun u => [(a0, .inr (3, [.ref a1, .ref a2, .ref a3, .ref a4, .int gg.hs, .ref a5, .ref a6, .ref a7, .int (nI gg.L), .int (nI gg.M), .int (nI u.1), .ref a8, .int mm.sd])), (a5, .inl (cI, 96, .inl gg.lt)), (a8, .inl (cI, 3, .inl u.2))]) (Wr := []) ⟨hx, hb, hml, hown, hts⟩ (kX4_readsNumber l D cI H.size a0 a1 a2 a3 a4 a5 a6 a7 a8 gg mm hL96 (q0 + 1) (by omega) nb 0 1 0 1 rfl (by omega) rfl (by omega)) (cwV 2 hts gX4_readsStatement_X4_readsNumber rfl rfl rfl hv_X4_readsNumber ⟨Nat.le_of_ble_eq_true rfl, Nat.le_of_ble_eq_true rfl⟩) hK hP hD hS hA [0, 1, 2] [] [0, 1, 2] rfl rfl (by decide) (by decide) (by decide) (by decide) (fun u => rfl) 0 rfl rfl rfl hl.1 rfl (Nat.le_of_ble_eq_true rfl) dX4_readsStatement_113 ⟨Nat.zero_le _, Nat.zero_le _⟩ (fun r_15 u_15 H locs hw_15 hP hD hS => ?_)
    refine lv_istore_n (lv' := [(2, .int r_15), (1, .int r_1), (0, .ref a0)]) hx hb dX4_readsStatement_116 rfl hl (by decide) rfl (fun ls hl => ?_)
    refine lv_goto (tgt := 169) hx hb dX4_readsStatement_117 (by decide) ?_
    refine lv_iload_n hx hb dX4_readsStatement_169 rfl (lv_at hl 0 rfl) ?_
    refine lv_if_eq (tgt := 182) hx hb dX4_readsStatement_170 (by decide) (fun c_16 => ?_) (fun c_16 => ?_)
    · skip
      obtain ⟨iq, hiq, hq_15, hqj_15, h1_15⟩ : ∃ i, i < 1 ∧ ndB gg.lt gg.L (q0 + 1) i = true ∧ (∀ j, j < i → ndB gg.lt gg.L (q0 + 1) j = false) ∧ u_15.1 = (q0 + 1) + i := by
        rcases hw_15 with q | q
        · exact absurd (q.1.symm.trans c_16) (by decide)
        · exact q.2
      have hd_15 : isI (hrF gg.lt gg.L (q0 + 1)) 48 57 = false := by
        have z := hq_15
        rw [ndB, show (q0 + 1) + iq = q0 + 1 by omega] at z
        simpa using z
      have hpl : u_15.1 = q0 + 1 := by omega
      refine lv_iconst (v := 0) hx hb dX4_readsStatement_182 (by decide) ?_
      exact hret 183 _ 0 (u_15.1, u_15.2) _ _ dX4_readsStatement_183 (by rw [hr_1] at c_3; rw [hr_1] at c_14; refine ⟨?_, ?_, ?_⟩ <;> simp [rsF, hpl, c_3, c_14, hd_15]) hP hD hS
    obtain ⟨hq_15, hu_15⟩ : (∀ j, j < 1 → ndB gg.lt gg.L (q0 + 1) j = false) ∧ u_15 = ((q0 + 1) + 1, numN gg.lt gg.L 0 nb (q0 + 1) 1) := by
      rcases hw_15 with q | q
      · exact q.2
      · exact absurd q.1 c_16
    have h1_15 : u_15.1 = (q0 + 1) + 1 := by rw [hu_15]
    have hd_15_0 : isI (hrF gg.lt gg.L (q0 + 1)) 48 57 = true := by
      have z := hq_15 0 (by omega)
      rw [ndB, show (q0 + 1) + 0 = q0 + 1 by omega] at z
      simpa using z
    have hv_15_0 : u_15.2 0 = hrF gg.lt gg.L (q0 + 1) - 48 := by rw [hu_15]; show numN gg.lt gg.L 0 nb (q0 + 1) 1 0 = _; first | exact numN_1 _ _ _ _ _ | rw [numN_1, show (q0 + 1) = q0 + 1 by omega]
    refine lv_aload_n hx hb dX4_readsStatement_173 rfl (lv_at hl 2 rfl) ?_
    refine xc_Vi (As := []) (rest := []) ⟨hx, hb, hml, hown, hts⟩ (kX4_here l D cI a0 a1 a2 a3 a4 a5 a6 a7 a8 gg mm hL96 u_15.1 (by omega)) (cwV 0 hts gX4_readsStatement_X4_here rfl rfl rfl hv_X4_here ⟨Nat.le_of_ble_eq_true rfl, Nat.le_of_ble_eq_true rfl⟩) hK hP [0, 1] rfl 0 rfl rfl rfl hl.1 rfl (Nat.le_of_ble_eq_true rfl) dX4_readsStatement_174 ⟨Nat.zero_le _, Nat.zero_le _⟩ (fun r_17 hr_17 => ?_)
    refine lv_bipush (v := 59) hx hb dX4_readsStatement_177 (by decide) ?_
    refine lv_icmp_eq (tgt := 184) hx hb dX4_readsStatement_179 (by decide) (fun c_18 => ?_) (fun c_18 => ?_)
    · skip
      refine lv_aload_n hx hb dX4_readsStatement_184 rfl (lv_at hl 2 rfl) ?_
      refine lv_dup hx hb dX4_readsStatement_185 rfl ?_
      refine va_get (D := D) (ci := 3) (v := .int (nI u_15.1)) (C := RX4) (T := TX4) (N := 13) hx hb hts hi_X4 hown hK.1 hP 0 rfl rfl 10 (by decide) hk_103 (fun _ h9 => h9) rfl dX4_readsStatement_186 ?_
      refine lv_iconst (v := 1) hx hb dX4_readsStatement_189 (by decide) ?_
      refine lv_iadd hx hb dX4_readsStatement_190 ?_
      refine lv_topi (fun z_19 ez_19 => ?_)
      obtain rfl : z_19 = nI (u_15.1 + 1) := ez_19.trans (ni_add (a := u_15.1) (b := 1) rfl rfl (rfl : (1 : Int32) = nI 1))
      refine va_put (D := D) (ci := 3) (v := .int (nI (u_15.1 + 1))) (ty := .int) (C := RX4) (T := TX4) (N := 13) hx hb hts hi_X4 tyX4 tyX4_ok nmX4 hown hK.1 hP hD hS 0 rfl rfl 10 (by decide) hk_103 (fun _ h9 => h9) rfl pd_I rfl rfl (Nat.le_of_ble_eq_true rfl) dX4_readsStatement_191 (fun H locs hP hD hS => ?_)
      have hP : va_P D vwCl [(a0, .inr (3, [.ref a1, .ref a2, .ref a3, .ref a4, .int gg.hs, .ref a5, .ref a6, .ref a7, .int (nI gg.L), .int (nI gg.M), .int (nI (u_15.1 + 1)), .ref a8, .int mm.sd])), (a5, .inl (cI, 96, .inl gg.lt)), (a8, .inl (cI, 3, .inl u_15.2))] H := hP
      have hD : va_D A [(a0, .inr (3, [.ref a1, .ref a2, .ref a3, .ref a4, .int gg.hs, .ref a5, .ref a6, .ref a7, .int (nI gg.L), .int (nI gg.M), .int (nI (u_15.1 + 1)), .ref a8, .int mm.sd])), (a5, .inl (cI, 96, .inl gg.lt)), (a8, .inl (cI, 3, .inl u_15.2))] := hD
      refine lv_iconst (v := 1) hx hb dX4_readsStatement_194 (by decide) ?_
      exact hret 195 _ 1 ((u_15.1 + 1), u_15.2) _ _ dX4_readsStatement_195 (by rw [hr_1] at c_3; rw [hr_1] at c_14; have hz := c_18; rw [hr_17, show u_15.1 = q0 + 2 by omega] at hz; have h9 : u_15.1 + 1 = q0 + 3 := (by omega); refine ⟨?_, ?_, ?_⟩ <;> simp [rsF, nbO, nbA, nbB, nbC, h9, hz, c_3, c_14, hd_15_0, hv_15_0]) hP hD hS
    refine lv_iconst (v := 0) hx hb dX4_readsStatement_182 (by decide) ?_
    exact hret 183 _ 0 (u_15.1, u_15.2) _ _ dX4_readsStatement_183 (by rw [hr_1] at c_3; rw [hr_1] at c_14; have hz := c_18; rw [hr_17, show u_15.1 = q0 + 2 by omega] at hz; have hpl : u_15.1 = q0 + 2 := (by omega); refine ⟨?_, ?_, ?_⟩ <;> simp [rsF, hpl, hz, c_3, c_14, hd_15_0]) hP hD hS
  by_cases c_20 : r_1 = 100
  · refine xs_lin (k := 100) (off := 131) (tgt := 147) hx hb dX4_readsStatement_16 c_20 (by decide) (by decide) (by decide) ?_
    refine lv_aload_n hx hb dX4_readsStatement_147 rfl (lv_at hl 1 rfl) ?_
    refine lv_iconst (v := 0) hx hb dX4_readsStatement_148 (by decide) ?_
    refine lv_iconst (v := 2) hx hb dX4_readsStatement_149 (by decide) ?_
    refine xw_Vi (As := [.int 0, .int 2]) (rest := []) (Wn := fun u => [(a0, .inr (3, [.ref a1, .ref a2, .ref a3, .ref a4, .int gg.hs, .ref a5, .ref a6, .ref a7, .int (nI gg.L), .int (nI gg.M), .int (nI u.1), .ref a8, .int mm.sd])), (a5, .inl (cI, 96, .inl gg.lt)), (a8, .inl (cI, 3, .inl u.2))]) (Wr := []) ⟨hx, hb, hml, hown, hts⟩ (kX4_readsNumber l D cI H.size a0 a1 a2 a3 a4 a5 a6 a7 a8 gg mm hL96 (q0 + 1) (by omega) nb 0 2 0 2 rfl (by omega) rfl (by omega)) (cwV 2 hts gX4_readsStatement_X4_readsNumber rfl rfl rfl hv_X4_readsNumber ⟨Nat.le_of_ble_eq_true rfl, Nat.le_of_ble_eq_true rfl⟩) hK hP hD hS hA [0, 1, 2] [] [0, 1, 2] rfl rfl (by decide) (by decide) (by decide) (by decide) (fun u => rfl) 0 rfl rfl rfl hl.1 rfl (Nat.le_of_ble_eq_true rfl) dX4_readsStatement_150 ⟨Nat.zero_le _, Nat.zero_le _⟩ (fun r_21 u_21 H locs hw_21 hP hD hS => ?_)
    refine lv_istore_n (lv' := [(2, .int r_21), (1, .int r_1), (0, .ref a0)]) hx hb dX4_readsStatement_153 rfl hl (by decide) rfl (fun ls hl => ?_)
    refine lv_goto (tgt := 169) hx hb dX4_readsStatement_154 (by decide) ?_
    refine lv_iload_n hx hb dX4_readsStatement_169 rfl (lv_at hl 0 rfl) ?_
    refine lv_if_eq (tgt := 182) hx hb dX4_readsStatement_170 (by decide) (fun c_22 => ?_) (fun c_22 => ?_)
    · skip
      obtain ⟨iq, hiq, hq_21, hqj_21, h1_21⟩ : ∃ i, i < 2 ∧ ndB gg.lt gg.L (q0 + 1) i = true ∧ (∀ j, j < i → ndB gg.lt gg.L (q0 + 1) j = false) ∧ u_21.1 = (q0 + 1) + i := by
        rcases hw_21 with q | q
        · exact absurd (q.1.symm.trans c_22) (by decide)
        · exact q.2
      refine lv_iconst (v := 0) hx hb dX4_readsStatement_182 (by decide) ?_
      exact hret 183 _ 0 (u_21.1, u_21.2) _ _ dX4_readsStatement_183 (by rw [hr_1] at c_3; rw [hr_1] at c_14; rw [hr_1] at c_20; have z := hq_21; rw [ndB] at z; rcases Nat.lt_or_ge iq 1 with g9 | g9; (focus (have e : iq = 0 := (by omega); subst e; rw [show (q0 + 1) + 0 = q0 + 1 by omega] at z; have z2 : isI (hrF gg.lt gg.L (q0 + 1)) 48 57 = false := (by simpa using z); have hpl : u_21.1 = q0 + 1 := (by omega); refine ⟨?_, ?_, ?_⟩ <;> simp [rsF, hpl, z2, c_3, c_14, c_20])); (focus (have e : iq = 1 := (by omega); subst e; rw [show (q0 + 1) + 1 = q0 + 2 by omega] at z; have z2 : isI (hrF gg.lt gg.L (q0 + 2)) 48 57 = false := (by simpa using z); have z3 := hqj_21 0 (by omega); rw [ndB, show (q0 + 1) + 0 = q0 + 1 by omega] at z3; have z4 : isI (hrF gg.lt gg.L (q0 + 1)) 48 57 = true := (by simpa using z3); have hpl : u_21.1 = q0 + 2 := (by omega); refine ⟨?_, ?_, ?_⟩ <;> simp [rsF, hpl, z2, z4, c_3, c_14, c_20]))) hP hD hS
    obtain ⟨hq_21, hu_21⟩ : (∀ j, j < 2 → ndB gg.lt gg.L (q0 + 1) j = false) ∧ u_21 = ((q0 + 1) + 2, numN gg.lt gg.L 0 nb (q0 + 1) 2) := by
      rcases hw_21 with q | q
      · exact q.2
      · exact absurd q.1 c_22
    have h1_21 : u_21.1 = (q0 + 1) + 2 := by rw [hu_21]
    have hd_21_0 : isI (hrF gg.lt gg.L (q0 + 1)) 48 57 = true := by
      have z := hq_21 0 (by omega)
      rw [ndB, show (q0 + 1) + 0 = q0 + 1 by omega] at z
      simpa using z
    have hd_21_1 : isI (hrF gg.lt gg.L (q0 + 2)) 48 57 = true := by
      have z := hq_21 1 (by omega)
      rw [ndB, show (q0 + 1) + 1 = q0 + 2 by omega] at z
      simpa using z
    have hv_21_0 : u_21.2 0 = 10 * (hrF gg.lt gg.L (q0 + 1) - 48) + hrF gg.lt gg.L (q0 + 2) - 48 := by rw [hu_21]; show numN gg.lt gg.L 0 nb (q0 + 1) 2 0 = _; first | exact numN_2 _ _ _ _ _ | rw [numN_2, show (q0 + 1) = q0 + 1 by omega]
    refine lv_aload_n hx hb dX4_readsStatement_173 rfl (lv_at hl 2 rfl) ?_
    refine xc_Vi (As := []) (rest := []) ⟨hx, hb, hml, hown, hts⟩ (kX4_here l D cI a0 a1 a2 a3 a4 a5 a6 a7 a8 gg mm hL96 u_21.1 (by omega)) (cwV 0 hts gX4_readsStatement_X4_here rfl rfl rfl hv_X4_here ⟨Nat.le_of_ble_eq_true rfl, Nat.le_of_ble_eq_true rfl⟩) hK hP [0, 1] rfl 0 rfl rfl rfl hl.1 rfl (Nat.le_of_ble_eq_true rfl) dX4_readsStatement_174 ⟨Nat.zero_le _, Nat.zero_le _⟩ (fun r_23 hr_23 => ?_)
    refine lv_bipush (v := 59) hx hb dX4_readsStatement_177 (by decide) ?_
    refine lv_icmp_eq (tgt := 184) hx hb dX4_readsStatement_179 (by decide) (fun c_24 => ?_) (fun c_24 => ?_)
    · skip
      refine lv_aload_n hx hb dX4_readsStatement_184 rfl (lv_at hl 2 rfl) ?_
      refine lv_dup hx hb dX4_readsStatement_185 rfl ?_
      refine va_get (D := D) (ci := 3) (v := .int (nI u_21.1)) (C := RX4) (T := TX4) (N := 13) hx hb hts hi_X4 hown hK.1 hP 0 rfl rfl 10 (by decide) hk_103 (fun _ h9 => h9) rfl dX4_readsStatement_186 ?_
      refine lv_iconst (v := 1) hx hb dX4_readsStatement_189 (by decide) ?_
      refine lv_iadd hx hb dX4_readsStatement_190 ?_
      refine lv_topi (fun z_25 ez_25 => ?_)
      obtain rfl : z_25 = nI (u_21.1 + 1) := ez_25.trans (ni_add (a := u_21.1) (b := 1) rfl rfl (rfl : (1 : Int32) = nI 1))
      refine va_put (D := D) (ci := 3) (v := .int (nI (u_21.1 + 1))) (ty := .int) (C := RX4) (T := TX4) (N := 13) hx hb hts hi_X4 tyX4 tyX4_ok nmX4 hown hK.1 hP hD hS 0 rfl rfl 10 (by decide) hk_103 (fun _ h9 => h9) rfl pd_I rfl rfl (Nat.le_of_ble_eq_true rfl) dX4_readsStatement_191 (fun H locs hP hD hS => ?_)
      have hP : va_P D vwCl [(a0, .inr (3, [.ref a1, .ref a2, .ref a3, .ref a4, .int gg.hs, .ref a5, .ref a6, .ref a7, .int (nI gg.L), .int (nI gg.M), .int (nI (u_21.1 + 1)), .ref a8, .int mm.sd])), (a5, .inl (cI, 96, .inl gg.lt)), (a8, .inl (cI, 3, .inl u_21.2))] H := hP
      have hD : va_D A [(a0, .inr (3, [.ref a1, .ref a2, .ref a3, .ref a4, .int gg.hs, .ref a5, .ref a6, .ref a7, .int (nI gg.L), .int (nI gg.M), .int (nI (u_21.1 + 1)), .ref a8, .int mm.sd])), (a5, .inl (cI, 96, .inl gg.lt)), (a8, .inl (cI, 3, .inl u_21.2))] := hD
      refine lv_iconst (v := 1) hx hb dX4_readsStatement_194 (by decide) ?_
      exact hret 195 _ 1 ((u_21.1 + 1), u_21.2) _ _ dX4_readsStatement_195 (by rw [hr_1] at c_3; rw [hr_1] at c_14; rw [hr_1] at c_20; have hz := c_24; rw [hr_23, show u_21.1 = q0 + 3 by omega] at hz; have h9 : u_21.1 + 1 = q0 + 4 := (by omega); refine ⟨?_, ?_, ?_⟩ <;> simp [rsF, nbO, nbA, nbB, nbC, h9, hz, c_3, c_14, c_20, hd_21_0, hd_21_1, hv_21_0]) hP hD hS
    refine lv_iconst (v := 0) hx hb dX4_readsStatement_182 (by decide) ?_
    exact hret 183 _ 0 (u_21.1, u_21.2) _ _ dX4_readsStatement_183 (by rw [hr_1] at c_3; rw [hr_1] at c_14; rw [hr_1] at c_20; have hz := c_24; rw [hr_23, show u_21.1 = q0 + 3 by omega] at hz; have hpl : u_21.1 = q0 + 3 := (by omega); refine ⟨?_, ?_, ?_⟩ <;> simp [rsF, hpl, hz, c_3, c_14, c_20, hd_21_0, hd_21_1]) hP hD hS
  by_cases c_26 : r_1 = 115
  · refine xs_lin (k := 115) (off := 60) (tgt := 76) hx hb dX4_readsStatement_16 c_26 (by decide) (by decide) (by decide) ?_
    refine lv_aload_n hx hb dX4_readsStatement_76 rfl (lv_at hl 1 rfl) ?_
    refine xw_Vi (As := []) (rest := []) (Wn := fun u => [(a0, .inr (3, [.ref a1, .ref a2, .ref a3, .ref a4, .int gg.hs, .ref a5, .ref a6, .ref a7, .int (nI gg.L), .int (nI gg.M), .int (nI u.1), .ref a8, .int mm.sd])), (a5, .inl (cI, 96, .inl gg.lt)), (a8, .inl (cI, 3, .inl u.2))]) (Wr := []) ⟨hx, hb, hml, hown, hts⟩ (kX4_readsKind l D cI H.size a0 a1 a2 a3 a4 a5 a6 a7 a8 gg mm hL96 (q0 + 1) (by omega) nb) (cwV 0 hts gX4_readsStatement_X4_readsKind rfl rfl rfl hv_X4_readsKind ⟨Nat.le_of_ble_eq_true rfl, Nat.le_of_ble_eq_true rfl⟩) hK hP hD hS hA [0, 1, 2] [] [0, 1, 2] rfl rfl (by decide) (by decide) (by decide) (by decide) (fun u => rfl) 0 rfl rfl rfl hl.1 rfl (Nat.le_of_ble_eq_true rfl) dX4_readsStatement_77 ⟨Nat.zero_le _, Nat.zero_le _⟩ (fun r_27 u_27 H locs hw_27 hP hD hS => ?_)
    refine lv_if_eq (tgt := 105) hx hb dX4_readsStatement_80 (by decide) (fun c_28 => ?_) (fun c_28 => ?_)
    · skip
      obtain ⟨hkd, hpl⟩ : kndOf (hrF gg.lt gg.L (q0 + 1)) < 0 ∧ u_27.1 = (q0 + 1) := by
        rcases hw_27 with q | q
        · exact absurd (q.2.1.symm.trans c_28) (by decide)
        · exact ⟨q.1, q.2.2⟩
      refine lv_iconst (v := 0) hx hb dX4_readsStatement_105 (by decide) ?_
      refine lv_istore_n (lv' := [(2, .int 0), (1, .int r_1), (0, .ref a0)]) hx hb dX4_readsStatement_106 rfl hl (by decide) rfl (fun ls hl => ?_)
      refine lv_goto (tgt := 169) hx hb dX4_readsStatement_107 (by decide) ?_
      refine lv_iload_n hx hb dX4_readsStatement_169 rfl (lv_at hl 0 rfl) ?_
      refine lv_if_eq (tgt := 182) hx hb dX4_readsStatement_170 (by decide) (fun c_29 => ?_) (fun c_29 => ?_)
      · skip
        refine lv_iconst (v := 0) hx hb dX4_readsStatement_182 (by decide) ?_
        exact hret 183 _ 0 (u_27.1, u_27.2) _ _ dX4_readsStatement_183 (by rw [hr_1] at c_3; rw [hr_1] at c_14; rw [hr_1] at c_20; rw [hr_1] at c_26; refine ⟨?_, ?_, ?_⟩ <;> simp [rsF, hpl, c_3, c_14, c_20, c_26, hkd]) hP hD hS
      exact absurd c_29 (by decide)
    obtain ⟨hkd, hu_27⟩ : ¬ kndOf (hrF gg.lt gg.L (q0 + 1)) < 0 ∧ u_27 = ((q0 + 1) + 1, upd nb 0 (kndOf (hrF gg.lt gg.L (q0 + 1)))) := by
      rcases hw_27 with q | q
      · exact ⟨q.1, q.2.2⟩
      · exact absurd q.2.1 c_28
    have h1_27 : u_27.1 = (q0 + 1) + 1 := by rw [hu_27]
    have hv_27_0 : u_27.2 0 = kndOf (hrF gg.lt gg.L (q0 + 1)) := by rw [hu_27]; show upd nb 0 (kndOf (hrF gg.lt gg.L (q0 + 1))) 0 = _; exact us
    refine lv_aload_n hx hb dX4_readsStatement_83 rfl (lv_at hl 1 rfl) ?_
    refine lv_iconst (v := 1) hx hb dX4_readsStatement_84 (by decide) ?_
    refine lv_iconst (v := 1) hx hb dX4_readsStatement_85 (by decide) ?_
    refine xw_Vi (As := [.int 1, .int 1]) (rest := []) (Wn := fun u => [(a0, .inr (3, [.ref a1, .ref a2, .ref a3, .ref a4, .int gg.hs, .ref a5, .ref a6, .ref a7, .int (nI gg.L), .int (nI gg.M), .int (nI u.1), .ref a8, .int mm.sd])), (a5, .inl (cI, 96, .inl gg.lt)), (a8, .inl (cI, 3, .inl u.2))]) (Wr := []) ⟨hx, hb, hml, hown, hts⟩ (kX4_readsNumber l D cI H.size a0 a1 a2 a3 a4 a5 a6 a7 a8 gg mm hL96 u_27.1 (by omega) u_27.2 1 1 1 1 rfl (by omega) rfl (by omega)) (cwV 2 hts gX4_readsStatement_X4_readsNumber rfl rfl rfl hv_X4_readsNumber ⟨Nat.le_of_ble_eq_true rfl, Nat.le_of_ble_eq_true rfl⟩) hK hP hD hS hA [0, 1, 2] [] [0, 1, 2] rfl rfl (by decide) (by decide) (by decide) (by decide) (fun u => rfl) 0 rfl rfl rfl hl.1 rfl (Nat.le_of_ble_eq_true rfl) dX4_readsStatement_86 ⟨Nat.zero_le _, Nat.zero_le _⟩ (fun r_30 u_30 H locs hw_30 hP hD hS => ?_)
    refine lv_if_eq (tgt := 105) hx hb dX4_readsStatement_89 (by decide) (fun c_31 => ?_) (fun c_31 => ?_)
    · skip
      obtain ⟨iq, hiq, hq_30, hqj_30, h1_30⟩ : ∃ i, i < 1 ∧ ndB gg.lt gg.L u_27.1 i = true ∧ (∀ j, j < i → ndB gg.lt gg.L u_27.1 j = false) ∧ u_30.1 = u_27.1 + i := by
        rcases hw_30 with q | q
        · exact absurd (q.1.symm.trans c_31) (by decide)
        · exact q.2
      have hd_30 : isI (hrF gg.lt gg.L (q0 + 2)) 48 57 = false := by
        have z := hq_30
        rw [ndB, show u_27.1 + iq = q0 + 2 by omega] at z
        simpa using z
      have hpl : u_30.1 = q0 + 2 := by omega
      refine lv_iconst (v := 0) hx hb dX4_readsStatement_105 (by decide) ?_
      refine lv_istore_n (lv' := [(2, .int 0), (1, .int r_1), (0, .ref a0)]) hx hb dX4_readsStatement_106 rfl hl (by decide) rfl (fun ls hl => ?_)
      refine lv_goto (tgt := 169) hx hb dX4_readsStatement_107 (by decide) ?_
      refine lv_iload_n hx hb dX4_readsStatement_169 rfl (lv_at hl 0 rfl) ?_
      refine lv_if_eq (tgt := 182) hx hb dX4_readsStatement_170 (by decide) (fun c_32 => ?_) (fun c_32 => ?_)
      · skip
        refine lv_iconst (v := 0) hx hb dX4_readsStatement_182 (by decide) ?_
        exact hret 183 _ 0 (u_30.1, u_30.2) _ _ dX4_readsStatement_183 (by rw [hr_1] at c_3; rw [hr_1] at c_14; rw [hr_1] at c_20; rw [hr_1] at c_26; refine ⟨?_, ?_, ?_⟩ <;> simp [rsF, hpl, c_3, c_14, c_20, c_26, hkd, hd_30]) hP hD hS
      exact absurd c_32 (by decide)
    obtain ⟨hq_30, hu_30⟩ : (∀ j, j < 1 → ndB gg.lt gg.L u_27.1 j = false) ∧ u_30 = (u_27.1 + 1, numN gg.lt gg.L 1 u_27.2 u_27.1 1) := by
      rcases hw_30 with q | q
      · exact q.2
      · exact absurd q.1 c_31
    have h1_30 : u_30.1 = u_27.1 + 1 := by rw [hu_30]
    have hd_30_0 : isI (hrF gg.lt gg.L (q0 + 2)) 48 57 = true := by
      have z := hq_30 0 (by omega)
      rw [ndB, show u_27.1 + 0 = q0 + 2 by omega] at z
      simpa using z
    have hv_30_0 : u_30.2 0 = kndOf (hrF gg.lt gg.L (q0 + 1)) := by rw [hu_30]; show numN gg.lt gg.L 1 u_27.2 u_27.1 1 0 = _; rw [numN_o _ _ _ _ _ (by decide)]; exact hv_27_0
    have hv_30_1 : u_30.2 1 = hrF gg.lt gg.L (q0 + 2) - 48 := by rw [hu_30]; show numN gg.lt gg.L 1 u_27.2 u_27.1 1 1 = _; first | exact numN_1 _ _ _ _ _ | rw [numN_1, show u_27.1 = q0 + 2 by omega]
    refine lv_aload_n hx hb dX4_readsStatement_92 rfl (lv_at hl 1 rfl) ?_
    refine lv_iconst (v := 2) hx hb dX4_readsStatement_93 (by decide) ?_
    refine lv_iconst (v := 1) hx hb dX4_readsStatement_94 (by decide) ?_
    refine xw_Vi (As := [.int 2, .int 1]) (rest := []) (Wn := fun u => [(a0, .inr (3, [.ref a1, .ref a2, .ref a3, .ref a4, .int gg.hs, .ref a5, .ref a6, .ref a7, .int (nI gg.L), .int (nI gg.M), .int (nI u.1), .ref a8, .int mm.sd])), (a5, .inl (cI, 96, .inl gg.lt)), (a8, .inl (cI, 3, .inl u.2))]) (Wr := []) ⟨hx, hb, hml, hown, hts⟩ (kX4_readsNumber l D cI H.size a0 a1 a2 a3 a4 a5 a6 a7 a8 gg mm hL96 u_30.1 (by omega) u_30.2 2 1 2 1 rfl (by omega) rfl (by omega)) (cwV 2 hts gX4_readsStatement_X4_readsNumber rfl rfl rfl hv_X4_readsNumber ⟨Nat.le_of_ble_eq_true rfl, Nat.le_of_ble_eq_true rfl⟩) hK hP hD hS hA [0, 1, 2] [] [0, 1, 2] rfl rfl (by decide) (by decide) (by decide) (by decide) (fun u => rfl) 0 rfl rfl rfl hl.1 rfl (Nat.le_of_ble_eq_true rfl) dX4_readsStatement_95 ⟨Nat.zero_le _, Nat.zero_le _⟩ (fun r_33 u_33 H locs hw_33 hP hD hS => ?_)
    refine lv_if_eq (tgt := 105) hx hb dX4_readsStatement_98 (by decide) (fun c_34 => ?_) (fun c_34 => ?_)
    · skip
      obtain ⟨iq, hiq, hq_33, hqj_33, h1_33⟩ : ∃ i, i < 1 ∧ ndB gg.lt gg.L u_30.1 i = true ∧ (∀ j, j < i → ndB gg.lt gg.L u_30.1 j = false) ∧ u_33.1 = u_30.1 + i := by
        rcases hw_33 with q | q
        · exact absurd (q.1.symm.trans c_34) (by decide)
        · exact q.2
      have hd_33 : isI (hrF gg.lt gg.L (q0 + 3)) 48 57 = false := by
        have z := hq_33
        rw [ndB, show u_30.1 + iq = q0 + 3 by omega] at z
        simpa using z
      have hpl : u_33.1 = q0 + 3 := by omega
      refine lv_iconst (v := 0) hx hb dX4_readsStatement_105 (by decide) ?_
      refine lv_istore_n (lv' := [(2, .int 0), (1, .int r_1), (0, .ref a0)]) hx hb dX4_readsStatement_106 rfl hl (by decide) rfl (fun ls hl => ?_)
      refine lv_goto (tgt := 169) hx hb dX4_readsStatement_107 (by decide) ?_
      refine lv_iload_n hx hb dX4_readsStatement_169 rfl (lv_at hl 0 rfl) ?_
      refine lv_if_eq (tgt := 182) hx hb dX4_readsStatement_170 (by decide) (fun c_35 => ?_) (fun c_35 => ?_)
      · skip
        refine lv_iconst (v := 0) hx hb dX4_readsStatement_182 (by decide) ?_
        exact hret 183 _ 0 (u_33.1, u_33.2) _ _ dX4_readsStatement_183 (by rw [hr_1] at c_3; rw [hr_1] at c_14; rw [hr_1] at c_20; rw [hr_1] at c_26; refine ⟨?_, ?_, ?_⟩ <;> simp [rsF, hpl, c_3, c_14, c_20, c_26, hkd, hd_30_0, hd_33]) hP hD hS
      exact absurd c_35 (by decide)
    obtain ⟨hq_33, hu_33⟩ : (∀ j, j < 1 → ndB gg.lt gg.L u_30.1 j = false) ∧ u_33 = (u_30.1 + 1, numN gg.lt gg.L 2 u_30.2 u_30.1 1) := by
      rcases hw_33 with q | q
      · exact q.2
      · exact absurd q.1 c_34
    have h1_33 : u_33.1 = u_30.1 + 1 := by rw [hu_33]
    have hd_33_0 : isI (hrF gg.lt gg.L (q0 + 3)) 48 57 = true := by
      have z := hq_33 0 (by omega)
      rw [ndB, show u_30.1 + 0 = q0 + 3 by omega] at z
      simpa using z
    have hv_33_0 : u_33.2 0 = kndOf (hrF gg.lt gg.L (q0 + 1)) := by rw [hu_33]; show numN gg.lt gg.L 2 u_30.2 u_30.1 1 0 = _; rw [numN_o _ _ _ _ _ (by decide)]; exact hv_30_0
    have hv_33_1 : u_33.2 1 = hrF gg.lt gg.L (q0 + 2) - 48 := by rw [hu_33]; show numN gg.lt gg.L 2 u_30.2 u_30.1 1 1 = _; rw [numN_o _ _ _ _ _ (by decide)]; exact hv_30_1
    have hv_33_2 : u_33.2 2 = hrF gg.lt gg.L (q0 + 3) - 48 := by rw [hu_33]; show numN gg.lt gg.L 2 u_30.2 u_30.1 1 2 = _; first | exact numN_1 _ _ _ _ _ | rw [numN_1, show u_30.1 = q0 + 3 by omega]
    refine lv_iconst (v := 1) hx hb dX4_readsStatement_101 (by decide) ?_
    refine lv_goto (tgt := 106) hx hb dX4_readsStatement_102 (by decide) ?_
    refine lv_istore_n (lv' := [(2, .int 1), (1, .int r_1), (0, .ref a0)]) hx hb dX4_readsStatement_106 rfl hl (by decide) rfl (fun ls hl => ?_)
    refine lv_goto (tgt := 169) hx hb dX4_readsStatement_107 (by decide) ?_
    refine lv_iload_n hx hb dX4_readsStatement_169 rfl (lv_at hl 0 rfl) ?_
    refine lv_if_eq (tgt := 182) hx hb dX4_readsStatement_170 (by decide) (fun c_36 => ?_) (fun c_36 => ?_)
    · skip
      exact absurd c_36 (by decide)
    refine lv_aload_n hx hb dX4_readsStatement_173 rfl (lv_at hl 2 rfl) ?_
    refine xc_Vi (As := []) (rest := []) ⟨hx, hb, hml, hown, hts⟩ (kX4_here l D cI a0 a1 a2 a3 a4 a5 a6 a7 a8 gg mm hL96 u_33.1 (by omega)) (cwV 0 hts gX4_readsStatement_X4_here rfl rfl rfl hv_X4_here ⟨Nat.le_of_ble_eq_true rfl, Nat.le_of_ble_eq_true rfl⟩) hK hP [0, 1] rfl 0 rfl rfl rfl hl.1 rfl (Nat.le_of_ble_eq_true rfl) dX4_readsStatement_174 ⟨Nat.zero_le _, Nat.zero_le _⟩ (fun r_37 hr_37 => ?_)
    refine lv_bipush (v := 59) hx hb dX4_readsStatement_177 (by decide) ?_
    refine lv_icmp_eq (tgt := 184) hx hb dX4_readsStatement_179 (by decide) (fun c_38 => ?_) (fun c_38 => ?_)
    · skip
      refine lv_aload_n hx hb dX4_readsStatement_184 rfl (lv_at hl 2 rfl) ?_
      refine lv_dup hx hb dX4_readsStatement_185 rfl ?_
      refine va_get (D := D) (ci := 3) (v := .int (nI u_33.1)) (C := RX4) (T := TX4) (N := 13) hx hb hts hi_X4 hown hK.1 hP 0 rfl rfl 10 (by decide) hk_103 (fun _ h9 => h9) rfl dX4_readsStatement_186 ?_
      refine lv_iconst (v := 1) hx hb dX4_readsStatement_189 (by decide) ?_
      refine lv_iadd hx hb dX4_readsStatement_190 ?_
      refine lv_topi (fun z_39 ez_39 => ?_)
      obtain rfl : z_39 = nI (u_33.1 + 1) := ez_39.trans (ni_add (a := u_33.1) (b := 1) rfl rfl (rfl : (1 : Int32) = nI 1))
      refine va_put (D := D) (ci := 3) (v := .int (nI (u_33.1 + 1))) (ty := .int) (C := RX4) (T := TX4) (N := 13) hx hb hts hi_X4 tyX4 tyX4_ok nmX4 hown hK.1 hP hD hS 0 rfl rfl 10 (by decide) hk_103 (fun _ h9 => h9) rfl pd_I rfl rfl (Nat.le_of_ble_eq_true rfl) dX4_readsStatement_191 (fun H locs hP hD hS => ?_)
      have hP : va_P D vwCl [(a0, .inr (3, [.ref a1, .ref a2, .ref a3, .ref a4, .int gg.hs, .ref a5, .ref a6, .ref a7, .int (nI gg.L), .int (nI gg.M), .int (nI (u_33.1 + 1)), .ref a8, .int mm.sd])), (a5, .inl (cI, 96, .inl gg.lt)), (a8, .inl (cI, 3, .inl u_33.2))] H := hP
      have hD : va_D A [(a0, .inr (3, [.ref a1, .ref a2, .ref a3, .ref a4, .int gg.hs, .ref a5, .ref a6, .ref a7, .int (nI gg.L), .int (nI gg.M), .int (nI (u_33.1 + 1)), .ref a8, .int mm.sd])), (a5, .inl (cI, 96, .inl gg.lt)), (a8, .inl (cI, 3, .inl u_33.2))] := hD
      refine lv_iconst (v := 1) hx hb dX4_readsStatement_194 (by decide) ?_
      exact hret 195 _ 1 ((u_33.1 + 1), u_33.2) _ _ dX4_readsStatement_195 (by rw [hr_1] at c_3; rw [hr_1] at c_14; rw [hr_1] at c_20; rw [hr_1] at c_26; have hz := c_38; rw [hr_37, show u_33.1 = q0 + 4 by omega] at hz; have h9 : u_33.1 + 1 = q0 + 5 := (by omega); refine ⟨?_, ?_, ?_⟩ <;> simp [rsF, nbO, nbA, nbB, nbC, h9, hz, c_3, c_14, c_20, c_26, hkd, hd_30_0, hd_33_0, hv_33_0, hv_33_1, hv_33_2]) hP hD hS
    refine lv_iconst (v := 0) hx hb dX4_readsStatement_182 (by decide) ?_
    exact hret 183 _ 0 (u_33.1, u_33.2) _ _ dX4_readsStatement_183 (by rw [hr_1] at c_3; rw [hr_1] at c_14; rw [hr_1] at c_20; rw [hr_1] at c_26; have hz := c_38; rw [hr_37, show u_33.1 = q0 + 4 by omega] at hz; have hpl : u_33.1 = q0 + 4 := (by omega); refine ⟨?_, ?_, ?_⟩ <;> simp [rsF, hpl, hz, c_3, c_14, c_20, c_26, hkd, hd_30_0, hd_33_0]) hP hD hS
  by_cases c_40 : r_1 = 116
  · refine xs_lin (k := 116) (off := 94) (tgt := 110) hx hb dX4_readsStatement_16 c_40 (by decide) (by decide) (by decide) ?_
    refine lv_aload_n hx hb dX4_readsStatement_110 rfl (lv_at hl 1 rfl) ?_
    refine lv_iconst (v := 0) hx hb dX4_readsStatement_111 (by decide) ?_
    refine lv_iconst (v := 1) hx hb dX4_readsStatement_112 (by decide) ?_
    refine xw_Vi (As := [.int 0, .int 1]) (rest := []) (Wn := fun u => [(a0, .inr (3, [.ref a1, .ref a2, .ref a3, .ref a4, .int gg.hs, .ref a5, .ref a6, .ref a7, .int (nI gg.L), .int (nI gg.M), .int (nI u.1), .ref a8, .int mm.sd])), (a5, .inl (cI, 96, .inl gg.lt)), (a8, .inl (cI, 3, .inl u.2))]) (Wr := []) ⟨hx, hb, hml, hown, hts⟩ (kX4_readsNumber l D cI H.size a0 a1 a2 a3 a4 a5 a6 a7 a8 gg mm hL96 (q0 + 1) (by omega) nb 0 1 0 1 rfl (by omega) rfl (by omega)) (cwV 2 hts gX4_readsStatement_X4_readsNumber rfl rfl rfl hv_X4_readsNumber ⟨Nat.le_of_ble_eq_true rfl, Nat.le_of_ble_eq_true rfl⟩) hK hP hD hS hA [0, 1, 2] [] [0, 1, 2] rfl rfl (by decide) (by decide) (by decide) (by decide) (fun u => rfl) 0 rfl rfl rfl hl.1 rfl (Nat.le_of_ble_eq_true rfl) dX4_readsStatement_113 ⟨Nat.zero_le _, Nat.zero_le _⟩ (fun r_41 u_41 H locs hw_41 hP hD hS => ?_)
    refine lv_istore_n (lv' := [(2, .int r_41), (1, .int r_1), (0, .ref a0)]) hx hb dX4_readsStatement_116 rfl hl (by decide) rfl (fun ls hl => ?_)
    refine lv_goto (tgt := 169) hx hb dX4_readsStatement_117 (by decide) ?_
    refine lv_iload_n hx hb dX4_readsStatement_169 rfl (lv_at hl 0 rfl) ?_
    refine lv_if_eq (tgt := 182) hx hb dX4_readsStatement_170 (by decide) (fun c_42 => ?_) (fun c_42 => ?_)
    · skip
      obtain ⟨iq, hiq, hq_41, hqj_41, h1_41⟩ : ∃ i, i < 1 ∧ ndB gg.lt gg.L (q0 + 1) i = true ∧ (∀ j, j < i → ndB gg.lt gg.L (q0 + 1) j = false) ∧ u_41.1 = (q0 + 1) + i := by
        rcases hw_41 with q | q
        · exact absurd (q.1.symm.trans c_42) (by decide)
        · exact q.2
      have hd_41 : isI (hrF gg.lt gg.L (q0 + 1)) 48 57 = false := by
        have z := hq_41
        rw [ndB, show (q0 + 1) + iq = q0 + 1 by omega] at z
        simpa using z
      have hpl : u_41.1 = q0 + 1 := by omega
      refine lv_iconst (v := 0) hx hb dX4_readsStatement_182 (by decide) ?_
      exact hret 183 _ 0 (u_41.1, u_41.2) _ _ dX4_readsStatement_183 (by rw [hr_1] at c_3; rw [hr_1] at c_14; rw [hr_1] at c_20; rw [hr_1] at c_26; rw [hr_1] at c_40; refine ⟨?_, ?_, ?_⟩ <;> simp [rsF, hpl, c_3, c_14, c_20, c_26, c_40, hd_41]) hP hD hS
    obtain ⟨hq_41, hu_41⟩ : (∀ j, j < 1 → ndB gg.lt gg.L (q0 + 1) j = false) ∧ u_41 = ((q0 + 1) + 1, numN gg.lt gg.L 0 nb (q0 + 1) 1) := by
      rcases hw_41 with q | q
      · exact q.2
      · exact absurd q.1 c_42
    have h1_41 : u_41.1 = (q0 + 1) + 1 := by rw [hu_41]
    have hd_41_0 : isI (hrF gg.lt gg.L (q0 + 1)) 48 57 = true := by
      have z := hq_41 0 (by omega)
      rw [ndB, show (q0 + 1) + 0 = q0 + 1 by omega] at z
      simpa using z
    have hv_41_0 : u_41.2 0 = hrF gg.lt gg.L (q0 + 1) - 48 := by rw [hu_41]; show numN gg.lt gg.L 0 nb (q0 + 1) 1 0 = _; first | exact numN_1 _ _ _ _ _ | rw [numN_1, show (q0 + 1) = q0 + 1 by omega]
    refine lv_aload_n hx hb dX4_readsStatement_173 rfl (lv_at hl 2 rfl) ?_
    refine xc_Vi (As := []) (rest := []) ⟨hx, hb, hml, hown, hts⟩ (kX4_here l D cI a0 a1 a2 a3 a4 a5 a6 a7 a8 gg mm hL96 u_41.1 (by omega)) (cwV 0 hts gX4_readsStatement_X4_here rfl rfl rfl hv_X4_here ⟨Nat.le_of_ble_eq_true rfl, Nat.le_of_ble_eq_true rfl⟩) hK hP [0, 1] rfl 0 rfl rfl rfl hl.1 rfl (Nat.le_of_ble_eq_true rfl) dX4_readsStatement_174 ⟨Nat.zero_le _, Nat.zero_le _⟩ (fun r_43 hr_43 => ?_)
    refine lv_bipush (v := 59) hx hb dX4_readsStatement_177 (by decide) ?_
    refine lv_icmp_eq (tgt := 184) hx hb dX4_readsStatement_179 (by decide) (fun c_44 => ?_) (fun c_44 => ?_)
    · skip
      refine lv_aload_n hx hb dX4_readsStatement_184 rfl (lv_at hl 2 rfl) ?_
      refine lv_dup hx hb dX4_readsStatement_185 rfl ?_
      refine va_get (D := D) (ci := 3) (v := .int (nI u_41.1)) (C := RX4) (T := TX4) (N := 13) hx hb hts hi_X4 hown hK.1 hP 0 rfl rfl 10 (by decide) hk_103 (fun _ h9 => h9) rfl dX4_readsStatement_186 ?_
      refine lv_iconst (v := 1) hx hb dX4_readsStatement_189 (by decide) ?_
      refine lv_iadd hx hb dX4_readsStatement_190 ?_
      refine lv_topi (fun z_45 ez_45 => ?_)
      obtain rfl : z_45 = nI (u_41.1 + 1) := ez_45.trans (ni_add (a := u_41.1) (b := 1) rfl rfl (rfl : (1 : Int32) = nI 1))
      refine va_put (D := D) (ci := 3) (v := .int (nI (u_41.1 + 1))) (ty := .int) (C := RX4) (T := TX4) (N := 13) hx hb hts hi_X4 tyX4 tyX4_ok nmX4 hown hK.1 hP hD hS 0 rfl rfl 10 (by decide) hk_103 (fun _ h9 => h9) rfl pd_I rfl rfl (Nat.le_of_ble_eq_true rfl) dX4_readsStatement_191 (fun H locs hP hD hS => ?_)
      have hP : va_P D vwCl [(a0, .inr (3, [.ref a1, .ref a2, .ref a3, .ref a4, .int gg.hs, .ref a5, .ref a6, .ref a7, .int (nI gg.L), .int (nI gg.M), .int (nI (u_41.1 + 1)), .ref a8, .int mm.sd])), (a5, .inl (cI, 96, .inl gg.lt)), (a8, .inl (cI, 3, .inl u_41.2))] H := hP
      have hD : va_D A [(a0, .inr (3, [.ref a1, .ref a2, .ref a3, .ref a4, .int gg.hs, .ref a5, .ref a6, .ref a7, .int (nI gg.L), .int (nI gg.M), .int (nI (u_41.1 + 1)), .ref a8, .int mm.sd])), (a5, .inl (cI, 96, .inl gg.lt)), (a8, .inl (cI, 3, .inl u_41.2))] := hD
      refine lv_iconst (v := 1) hx hb dX4_readsStatement_194 (by decide) ?_
      exact hret 195 _ 1 ((u_41.1 + 1), u_41.2) _ _ dX4_readsStatement_195 (by rw [hr_1] at c_3; rw [hr_1] at c_14; rw [hr_1] at c_20; rw [hr_1] at c_26; rw [hr_1] at c_40; have hz := c_44; rw [hr_43, show u_41.1 = q0 + 2 by omega] at hz; have h9 : u_41.1 + 1 = q0 + 3 := (by omega); refine ⟨?_, ?_, ?_⟩ <;> simp [rsF, nbO, nbA, nbB, nbC, h9, hz, c_3, c_14, c_20, c_26, c_40, hd_41_0, hv_41_0]) hP hD hS
    refine lv_iconst (v := 0) hx hb dX4_readsStatement_182 (by decide) ?_
    exact hret 183 _ 0 (u_41.1, u_41.2) _ _ dX4_readsStatement_183 (by rw [hr_1] at c_3; rw [hr_1] at c_14; rw [hr_1] at c_20; rw [hr_1] at c_26; rw [hr_1] at c_40; have hz := c_44; rw [hr_43, show u_41.1 = q0 + 2 by omega] at hz; have hpl : u_41.1 = q0 + 2 := (by omega); refine ⟨?_, ?_, ?_⟩ <;> simp [rsF, hpl, hz, c_3, c_14, c_20, c_26, c_40, hd_41_0]) hP hD hS
  by_cases c_46 : r_1 = 119
  · refine xs_lin (k := 119) (off := 104) (tgt := 120) hx hb dX4_readsStatement_16 c_46 (by decide) (by decide) (by decide) ?_
    refine lv_aload_n hx hb dX4_readsStatement_120 rfl (lv_at hl 1 rfl) ?_
    refine lv_iconst (v := 0) hx hb dX4_readsStatement_121 (by decide) ?_
    refine lv_iconst (v := 1) hx hb dX4_readsStatement_122 (by decide) ?_
    refine xw_Vi (As := [.int 0, .int 1]) (rest := []) (Wn := fun u => [(a0, .inr (3, [.ref a1, .ref a2, .ref a3, .ref a4, .int gg.hs, .ref a5, .ref a6, .ref a7, .int (nI gg.L), .int (nI gg.M), .int (nI u.1), .ref a8, .int mm.sd])), (a5, .inl (cI, 96, .inl gg.lt)), (a8, .inl (cI, 3, .inl u.2))]) (Wr := []) ⟨hx, hb, hml, hown, hts⟩ (kX4_readsNumber l D cI H.size a0 a1 a2 a3 a4 a5 a6 a7 a8 gg mm hL96 (q0 + 1) (by omega) nb 0 1 0 1 rfl (by omega) rfl (by omega)) (cwV 2 hts gX4_readsStatement_X4_readsNumber rfl rfl rfl hv_X4_readsNumber ⟨Nat.le_of_ble_eq_true rfl, Nat.le_of_ble_eq_true rfl⟩) hK hP hD hS hA [0, 1, 2] [] [0, 1, 2] rfl rfl (by decide) (by decide) (by decide) (by decide) (fun u => rfl) 0 rfl rfl rfl hl.1 rfl (Nat.le_of_ble_eq_true rfl) dX4_readsStatement_123 ⟨Nat.zero_le _, Nat.zero_le _⟩ (fun r_47 u_47 H locs hw_47 hP hD hS => ?_)
    refine lv_if_eq (tgt := 142) hx hb dX4_readsStatement_126 (by decide) (fun c_48 => ?_) (fun c_48 => ?_)
    · skip
      obtain ⟨iq, hiq, hq_47, hqj_47, h1_47⟩ : ∃ i, i < 1 ∧ ndB gg.lt gg.L (q0 + 1) i = true ∧ (∀ j, j < i → ndB gg.lt gg.L (q0 + 1) j = false) ∧ u_47.1 = (q0 + 1) + i := by
        rcases hw_47 with q | q
        · exact absurd (q.1.symm.trans c_48) (by decide)
        · exact q.2
      have hd_47 : isI (hrF gg.lt gg.L (q0 + 1)) 48 57 = false := by
        have z := hq_47
        rw [ndB, show (q0 + 1) + iq = q0 + 1 by omega] at z
        simpa using z
      have hpl : u_47.1 = q0 + 1 := by omega
      refine lv_iconst (v := 0) hx hb dX4_readsStatement_142 (by decide) ?_
      refine lv_istore_n (lv' := [(2, .int 0), (1, .int r_1), (0, .ref a0)]) hx hb dX4_readsStatement_143 rfl hl (by decide) rfl (fun ls hl => ?_)
      refine lv_goto (tgt := 169) hx hb dX4_readsStatement_144 (by decide) ?_
      refine lv_iload_n hx hb dX4_readsStatement_169 rfl (lv_at hl 0 rfl) ?_
      refine lv_if_eq (tgt := 182) hx hb dX4_readsStatement_170 (by decide) (fun c_49 => ?_) (fun c_49 => ?_)
      · skip
        refine lv_iconst (v := 0) hx hb dX4_readsStatement_182 (by decide) ?_
        exact hret 183 _ 0 (u_47.1, u_47.2) _ _ dX4_readsStatement_183 (by rw [hr_1] at c_3; rw [hr_1] at c_14; rw [hr_1] at c_20; rw [hr_1] at c_26; rw [hr_1] at c_40; rw [hr_1] at c_46; refine ⟨?_, ?_, ?_⟩ <;> simp [rsF, hpl, c_3, c_14, c_20, c_26, c_40, c_46, hd_47]) hP hD hS
      exact absurd c_49 (by decide)
    obtain ⟨hq_47, hu_47⟩ : (∀ j, j < 1 → ndB gg.lt gg.L (q0 + 1) j = false) ∧ u_47 = ((q0 + 1) + 1, numN gg.lt gg.L 0 nb (q0 + 1) 1) := by
      rcases hw_47 with q | q
      · exact q.2
      · exact absurd q.1 c_48
    have h1_47 : u_47.1 = (q0 + 1) + 1 := by rw [hu_47]
    have hd_47_0 : isI (hrF gg.lt gg.L (q0 + 1)) 48 57 = true := by
      have z := hq_47 0 (by omega)
      rw [ndB, show (q0 + 1) + 0 = q0 + 1 by omega] at z
      simpa using z
    have hv_47_0 : u_47.2 0 = hrF gg.lt gg.L (q0 + 1) - 48 := by rw [hu_47]; show numN gg.lt gg.L 0 nb (q0 + 1) 1 0 = _; first | exact numN_1 _ _ _ _ _ | rw [numN_1, show (q0 + 1) = q0 + 1 by omega]
    refine lv_aload_n hx hb dX4_readsStatement_129 rfl (lv_at hl 1 rfl) ?_
    refine lv_iconst (v := 1) hx hb dX4_readsStatement_130 (by decide) ?_
    refine lv_iconst (v := 1) hx hb dX4_readsStatement_131 (by decide) ?_
    refine xw_Vi (As := [.int 1, .int 1]) (rest := []) (Wn := fun u => [(a0, .inr (3, [.ref a1, .ref a2, .ref a3, .ref a4, .int gg.hs, .ref a5, .ref a6, .ref a7, .int (nI gg.L), .int (nI gg.M), .int (nI u.1), .ref a8, .int mm.sd])), (a5, .inl (cI, 96, .inl gg.lt)), (a8, .inl (cI, 3, .inl u.2))]) (Wr := []) ⟨hx, hb, hml, hown, hts⟩ (kX4_readsNumber l D cI H.size a0 a1 a2 a3 a4 a5 a6 a7 a8 gg mm hL96 u_47.1 (by omega) u_47.2 1 1 1 1 rfl (by omega) rfl (by omega)) (cwV 2 hts gX4_readsStatement_X4_readsNumber rfl rfl rfl hv_X4_readsNumber ⟨Nat.le_of_ble_eq_true rfl, Nat.le_of_ble_eq_true rfl⟩) hK hP hD hS hA [0, 1, 2] [] [0, 1, 2] rfl rfl (by decide) (by decide) (by decide) (by decide) (fun u => rfl) 0 rfl rfl rfl hl.1 rfl (Nat.le_of_ble_eq_true rfl) dX4_readsStatement_132 ⟨Nat.zero_le _, Nat.zero_le _⟩ (fun r_50 u_50 H locs hw_50 hP hD hS => ?_)
    refine lv_if_eq (tgt := 142) hx hb dX4_readsStatement_135 (by decide) (fun c_51 => ?_) (fun c_51 => ?_)
    · skip
      obtain ⟨iq, hiq, hq_50, hqj_50, h1_50⟩ : ∃ i, i < 1 ∧ ndB gg.lt gg.L u_47.1 i = true ∧ (∀ j, j < i → ndB gg.lt gg.L u_47.1 j = false) ∧ u_50.1 = u_47.1 + i := by
        rcases hw_50 with q | q
        · exact absurd (q.1.symm.trans c_51) (by decide)
        · exact q.2
      have hd_50 : isI (hrF gg.lt gg.L (q0 + 2)) 48 57 = false := by
        have z := hq_50
        rw [ndB, show u_47.1 + iq = q0 + 2 by omega] at z
        simpa using z
      have hpl : u_50.1 = q0 + 2 := by omega
      refine lv_iconst (v := 0) hx hb dX4_readsStatement_142 (by decide) ?_
      refine lv_istore_n (lv' := [(2, .int 0), (1, .int r_1), (0, .ref a0)]) hx hb dX4_readsStatement_143 rfl hl (by decide) rfl (fun ls hl => ?_)
      refine lv_goto (tgt := 169) hx hb dX4_readsStatement_144 (by decide) ?_
      refine lv_iload_n hx hb dX4_readsStatement_169 rfl (lv_at hl 0 rfl) ?_
      refine lv_if_eq (tgt := 182) hx hb dX4_readsStatement_170 (by decide) (fun c_52 => ?_) (fun c_52 => ?_)
      · skip
        refine lv_iconst (v := 0) hx hb dX4_readsStatement_182 (by decide) ?_
        exact hret 183 _ 0 (u_50.1, u_50.2) _ _ dX4_readsStatement_183 (by rw [hr_1] at c_3; rw [hr_1] at c_14; rw [hr_1] at c_20; rw [hr_1] at c_26; rw [hr_1] at c_40; rw [hr_1] at c_46; refine ⟨?_, ?_, ?_⟩ <;> simp [rsF, hpl, c_3, c_14, c_20, c_26, c_40, c_46, hd_47_0, hd_50]) hP hD hS
      exact absurd c_52 (by decide)
    obtain ⟨hq_50, hu_50⟩ : (∀ j, j < 1 → ndB gg.lt gg.L u_47.1 j = false) ∧ u_50 = (u_47.1 + 1, numN gg.lt gg.L 1 u_47.2 u_47.1 1) := by
      rcases hw_50 with q | q
      · exact q.2
      · exact absurd q.1 c_51
    have h1_50 : u_50.1 = u_47.1 + 1 := by rw [hu_50]
    have hd_50_0 : isI (hrF gg.lt gg.L (q0 + 2)) 48 57 = true := by
      have z := hq_50 0 (by omega)
      rw [ndB, show u_47.1 + 0 = q0 + 2 by omega] at z
      simpa using z
    have hv_50_0 : u_50.2 0 = hrF gg.lt gg.L (q0 + 1) - 48 := by rw [hu_50]; show numN gg.lt gg.L 1 u_47.2 u_47.1 1 0 = _; rw [numN_o _ _ _ _ _ (by decide)]; exact hv_47_0
    have hv_50_1 : u_50.2 1 = hrF gg.lt gg.L (q0 + 2) - 48 := by rw [hu_50]; show numN gg.lt gg.L 1 u_47.2 u_47.1 1 1 = _; first | exact numN_1 _ _ _ _ _ | rw [numN_1, show u_47.1 = q0 + 2 by omega]
    refine lv_iconst (v := 1) hx hb dX4_readsStatement_138 (by decide) ?_
    refine lv_goto (tgt := 143) hx hb dX4_readsStatement_139 (by decide) ?_
    refine lv_istore_n (lv' := [(2, .int 1), (1, .int r_1), (0, .ref a0)]) hx hb dX4_readsStatement_143 rfl hl (by decide) rfl (fun ls hl => ?_)
    refine lv_goto (tgt := 169) hx hb dX4_readsStatement_144 (by decide) ?_
    refine lv_iload_n hx hb dX4_readsStatement_169 rfl (lv_at hl 0 rfl) ?_
    refine lv_if_eq (tgt := 182) hx hb dX4_readsStatement_170 (by decide) (fun c_53 => ?_) (fun c_53 => ?_)
    · skip
      exact absurd c_53 (by decide)
    refine lv_aload_n hx hb dX4_readsStatement_173 rfl (lv_at hl 2 rfl) ?_
    refine xc_Vi (As := []) (rest := []) ⟨hx, hb, hml, hown, hts⟩ (kX4_here l D cI a0 a1 a2 a3 a4 a5 a6 a7 a8 gg mm hL96 u_50.1 (by omega)) (cwV 0 hts gX4_readsStatement_X4_here rfl rfl rfl hv_X4_here ⟨Nat.le_of_ble_eq_true rfl, Nat.le_of_ble_eq_true rfl⟩) hK hP [0, 1] rfl 0 rfl rfl rfl hl.1 rfl (Nat.le_of_ble_eq_true rfl) dX4_readsStatement_174 ⟨Nat.zero_le _, Nat.zero_le _⟩ (fun r_54 hr_54 => ?_)
    refine lv_bipush (v := 59) hx hb dX4_readsStatement_177 (by decide) ?_
    refine lv_icmp_eq (tgt := 184) hx hb dX4_readsStatement_179 (by decide) (fun c_55 => ?_) (fun c_55 => ?_)
    · skip
      refine lv_aload_n hx hb dX4_readsStatement_184 rfl (lv_at hl 2 rfl) ?_
      refine lv_dup hx hb dX4_readsStatement_185 rfl ?_
      refine va_get (D := D) (ci := 3) (v := .int (nI u_50.1)) (C := RX4) (T := TX4) (N := 13) hx hb hts hi_X4 hown hK.1 hP 0 rfl rfl 10 (by decide) hk_103 (fun _ h9 => h9) rfl dX4_readsStatement_186 ?_
      refine lv_iconst (v := 1) hx hb dX4_readsStatement_189 (by decide) ?_
      refine lv_iadd hx hb dX4_readsStatement_190 ?_
      refine lv_topi (fun z_56 ez_56 => ?_)
      obtain rfl : z_56 = nI (u_50.1 + 1) := ez_56.trans (ni_add (a := u_50.1) (b := 1) rfl rfl (rfl : (1 : Int32) = nI 1))
      refine va_put (D := D) (ci := 3) (v := .int (nI (u_50.1 + 1))) (ty := .int) (C := RX4) (T := TX4) (N := 13) hx hb hts hi_X4 tyX4 tyX4_ok nmX4 hown hK.1 hP hD hS 0 rfl rfl 10 (by decide) hk_103 (fun _ h9 => h9) rfl pd_I rfl rfl (Nat.le_of_ble_eq_true rfl) dX4_readsStatement_191 (fun H locs hP hD hS => ?_)
      have hP : va_P D vwCl [(a0, .inr (3, [.ref a1, .ref a2, .ref a3, .ref a4, .int gg.hs, .ref a5, .ref a6, .ref a7, .int (nI gg.L), .int (nI gg.M), .int (nI (u_50.1 + 1)), .ref a8, .int mm.sd])), (a5, .inl (cI, 96, .inl gg.lt)), (a8, .inl (cI, 3, .inl u_50.2))] H := hP
      have hD : va_D A [(a0, .inr (3, [.ref a1, .ref a2, .ref a3, .ref a4, .int gg.hs, .ref a5, .ref a6, .ref a7, .int (nI gg.L), .int (nI gg.M), .int (nI (u_50.1 + 1)), .ref a8, .int mm.sd])), (a5, .inl (cI, 96, .inl gg.lt)), (a8, .inl (cI, 3, .inl u_50.2))] := hD
      refine lv_iconst (v := 1) hx hb dX4_readsStatement_194 (by decide) ?_
      exact hret 195 _ 1 ((u_50.1 + 1), u_50.2) _ _ dX4_readsStatement_195 (by rw [hr_1] at c_3; rw [hr_1] at c_14; rw [hr_1] at c_20; rw [hr_1] at c_26; rw [hr_1] at c_40; rw [hr_1] at c_46; have hz := c_55; rw [hr_54, show u_50.1 = q0 + 3 by omega] at hz; have h9 : u_50.1 + 1 = q0 + 4 := (by omega); refine ⟨?_, ?_, ?_⟩ <;> simp [rsF, nbO, nbA, nbB, nbC, h9, hz, c_3, c_14, c_20, c_26, c_40, c_46, hd_47_0, hd_50_0, hv_50_0, hv_50_1]) hP hD hS
    refine lv_iconst (v := 0) hx hb dX4_readsStatement_182 (by decide) ?_
    exact hret 183 _ 0 (u_50.1, u_50.2) _ _ dX4_readsStatement_183 (by rw [hr_1] at c_3; rw [hr_1] at c_14; rw [hr_1] at c_20; rw [hr_1] at c_26; rw [hr_1] at c_40; rw [hr_1] at c_46; have hz := c_55; rw [hr_54, show u_50.1 = q0 + 3 by omega] at hz; have hpl : u_50.1 = q0 + 3 := (by omega); refine ⟨?_, ?_, ?_⟩ <;> simp [rsF, hpl, hz, c_3, c_14, c_20, c_26, c_40, c_46, hd_47_0, hd_50_0]) hP hD hS
  refine xs_lout (tgt := 157) (ks := [97, 98, 100, 115, 116, 119]) hx hb dX4_readsStatement_16 (List.forall_mem_cons.mpr ⟨c_3, List.forall_mem_cons.mpr ⟨c_14, List.forall_mem_cons.mpr ⟨c_20, List.forall_mem_cons.mpr ⟨c_26, List.forall_mem_cons.mpr ⟨c_40, List.forall_mem_cons.mpr ⟨c_46, fun _ h => absurd h List.not_mem_nil⟩⟩⟩⟩⟩⟩) (by decide) (by decide) (by decide) ?_
  refine lv_aload_n hx hb dX4_readsStatement_157 rfl (lv_at hl 1 rfl) ?_
  refine lv_dup hx hb dX4_readsStatement_158 rfl ?_
  refine va_get (D := D) (ci := 3) (v := .int (nI (q0 + 1))) (C := RX4) (T := TX4) (N := 13) hx hb hts hi_X4 hown hK.1 hP 0 rfl rfl 10 (by decide) hk_103 (fun _ h9 => h9) rfl dX4_readsStatement_159 ?_
  refine lv_iconst (v := 1) hx hb dX4_readsStatement_162 (by decide) ?_
  refine lv_isub hx hb dX4_readsStatement_163 ?_
  refine lv_topi (fun z_57 ez_57 => ?_)
  obtain rfl : z_57 = nI q0 := ez_57.trans (ni_sub (a := q0 + 1) (b := 1) rfl rfl rfl (by omega))
  refine va_put (D := D) (ci := 3) (v := .int (nI q0)) (ty := .int) (C := RX4) (T := TX4) (N := 13) hx hb hts hi_X4 tyX4 tyX4_ok nmX4 hown hK.1 hP hD hS 0 rfl rfl 10 (by decide) hk_103 (fun _ h9 => h9) rfl pd_I rfl rfl (Nat.le_of_ble_eq_true rfl) dX4_readsStatement_164 (fun H locs hP hD hS => ?_)
  have hP : va_P D vwCl [(a0, .inr (3, [.ref a1, .ref a2, .ref a3, .ref a4, .int gg.hs, .ref a5, .ref a6, .ref a7, .int (nI gg.L), .int (nI gg.M), .int (nI q0), .ref a8, .int mm.sd])), (a5, .inl (cI, 96, .inl gg.lt)), (a8, .inl (cI, 3, .inl nb))] H := hP
  have hD : va_D A [(a0, .inr (3, [.ref a1, .ref a2, .ref a3, .ref a4, .int gg.hs, .ref a5, .ref a6, .ref a7, .int (nI gg.L), .int (nI gg.M), .int (nI q0), .ref a8, .int mm.sd])), (a5, .inl (cI, 96, .inl gg.lt)), (a8, .inl (cI, 3, .inl nb))] := hD
  refine lv_iconst (v := 0) hx hb dX4_readsStatement_167 (by decide) ?_
  exact hret 168 _ 0 (q0, nb) _ _ dX4_readsStatement_168 (by rw [hr_1] at c_3; rw [hr_1] at c_14; rw [hr_1] at c_20; rw [hr_1] at c_26; rw [hr_1] at c_40; rw [hr_1] at c_46; refine ⟨?_, ?_, ?_⟩ <;> simp [rsF, c_3, c_14, c_20, c_26, c_40, c_46]) hP hD hS


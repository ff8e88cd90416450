theorem hs_X4_wearsIn : yX4_wearsIn.cls ≠ "java/lang/invoke/MethodHandle" ∧ yX4_wearsIn.cls ≠ "java/lang/invoke/VarHandle" ∧ (parseMethodDescriptor yX4_wearsIn.desc).map (fun d => d.parameters.length) = some 2 := by decide +kernel
theorem hs_X4_fallsIn : yX4_fallsIn.cls ≠ "java/lang/invoke/MethodHandle" ∧ yX4_fallsIn.cls ≠ "java/lang/invoke/VarHandle" ∧ (parseMethodDescriptor yX4_fallsIn.desc).map (fun d => d.parameters.length) = some 2 := by decide +kernel
theorem hs_X4_day : yX4_day.cls ≠ "java/lang/invoke/MethodHandle" ∧ yX4_day.cls ≠ "java/lang/invoke/VarHandle" ∧ (parseMethodDescriptor yX4_day.desc).map (fun d => d.parameters.length) = some 1 := by decide +kernel
theorem hs_X4_daysOn : yX4_daysOn.cls ≠ "java/lang/invoke/MethodHandle" ∧ yX4_daysOn.cls ≠ "java/lang/invoke/VarHandle" ∧ (parseMethodDescriptor yX4_daysOn.desc).map (fun d => d.parameters.length) = some 2 := by decide +kernel
theorem hs_X4_rains : yX4_rains.cls ≠ "java/lang/invoke/MethodHandle" ∧ yX4_rains.cls ≠ "java/lang/invoke/VarHandle" ∧ (parseMethodDescriptor yX4_rains.desc).map (fun d => d.parameters.length) = some 1 := by decide +kernel
theorem hs_X4_adds : yX4_adds.cls ≠ "java/lang/invoke/MethodHandle" ∧ yX4_adds.cls ≠ "java/lang/invoke/VarHandle" ∧ (parseMethodDescriptor yX4_adds.desc).map (fun d => d.parameters.length) = some 4 := by decide +kernel
theorem hs_X4_copies : yX4_copies.cls ≠ "java/lang/invoke/MethodHandle" ∧ yX4_copies.cls ≠ "java/lang/invoke/VarHandle" ∧ (parseMethodDescriptor yX4_copies.desc).map (fun d => d.parameters.length) = some 2 := by decide +kernel
set_option maxHeartbeats 4000000 in
set_option maxRecDepth 100000 in
theorem kX4_wearsIn (l : Launch) (D : va_G) (cI : ClassId) (sz : Nat) (h : Nat) (r : RR) (n : Nat) (hI : Inv n r) (p0 : Int32) (t0 : Nat) (hp0 : p0 = nI t0) (ht0 : t0 < n) : Met l yX4_wearsIn wsX4_wearsIn ({ frames := 1, cells := 0, slots := 0, locals := 21 }) (PRW D cI [.ref h, .int p0] [(h, .inl (cI, 49, .inl r))] sz) (va_Qv (S := RR) (fun u => u = wearW r t0) (BRW D [(h, .inl (cI, 49, .inl r))] sz (fun u => [(h, .inl (cI, 49, .inl u))])) (va_A [(h, .inl (cI, 49, .inl r))] sz)) 0 0 (va_A [(h, .inl (cI, 49, .inl r))] sz) := by
  refine st_rwv (cc := cX4_wearsIn) (maxL := 2) (by decide) rfl (Nat.le_of_ble_eq_true rfl) ?_
  intro p e s m below meth c Q ls A hx hb hml hts hown hP hK hD hA hS hl hret
  replace hown : s.vm.findClass RX4 = some m.cls := hown
  replace hl : lv_has ls 2 [(0, .ref h), (1, .int p0)] := hl
  obtain ⟨H, hH⟩ : ∃ z, z = s.heap := ⟨_, rfl⟩
  obtain ⟨locs, hlo⟩ : ∃ z : List Loc, z = [] := ⟨_, rfl⟩
  replace hP : va_P D vwCl [(h, .inl (cI, 49, .inl r))] H := by rw [hH]; exact hP
  replace hS : va_S A s.heap H locs := by rw [hH, hlo]; exact hS
  show W p l e ({ frames := 1, cells := 0, slots := 0, locals := 21 }) s m [.ref h, .int p0].toArray below meth c s.heap [] 0 0 Q (F0 m 0 ls [])
  rw [← hlo]
  suffices hgo : W p l e ({ frames := 1, cells := 0, slots := 0, locals := 21 }) s m [.ref h, .int p0].toArray below meth c H locs 0 0 Q (F0 m 0 ls []) by rw [hH] at hgo; exact hgo
  clear hH hlo
  have hn9 := hI.le
  refine lv_aload_n hx hb dX4_wearsIn_0 rfl (lv_at hl 0 rfl) ?_
  refine lv_iload_n hx hb dX4_wearsIn_1 rfl (lv_at hl 1 rfl) ?_
  refine lv_iconst (v := 3) hx hb dX4_wearsIn_2 (by decide) ?_
  refine xc_Si (As := [.int p0, .int 3]) (rest := [.ref h]) ⟨hx, hb, hml, hown, hts⟩ (kX4_of l D cI p0 3 t0 3 hp0 (rfl : (3 : Int32) = nI 3)) (va_cwS 2 hts gX4_wearsIn_X4_of rfl rfl rfl hs_X4_of ⟨Nat.le_of_ble_eq_true rfl, Nat.le_of_ble_eq_true rfl⟩) hK hP [] rfl rfl hl.1 rfl (Nat.le_of_ble_eq_true rfl) dX4_wearsIn_3 ⟨Nat.zero_le _, Nat.zero_le _⟩ (fun r_1 hr_1 => ?_)
  refine lv_bipush (v := 9) hx hb dX4_wearsIn_6 (by decide) ?_
  refine lv_aload_n hx hb dX4_wearsIn_8 rfl (lv_at hl 0 rfl) ?_
  refine lv_iload_n hx hb dX4_wearsIn_9 rfl (lv_at hl 1 rfl) ?_
  refine lv_iconst (v := 3) hx hb dX4_wearsIn_10 (by decide) ?_
  refine xc_Si (As := [.int p0, .int 3]) (rest := [.ref h, .int 9, .int r_1, .ref h]) ⟨hx, hb, hml, hown, hts⟩ (kX4_of l D cI p0 3 t0 3 hp0 (rfl : (3 : Int32) = nI 3)) (va_cwS 2 hts gX4_wearsIn_X4_of rfl rfl rfl hs_X4_of ⟨Nat.le_of_ble_eq_true rfl, Nat.le_of_ble_eq_true rfl⟩) hK hP [] rfl rfl hl.1 rfl (Nat.le_of_ble_eq_true rfl) dX4_wearsIn_11 ⟨Nat.zero_le _, Nat.zero_le _⟩ (fun r_2 hr_2 => ?_)
  refine xa_ld hx hb hK hP 0 rfl (j := (oF t0 3)) hr_2 (oF_lt (by omega) (by omega)) (by decide) dX4_wearsIn_14 ?_
  refine lv_iconst (v := 1) hx hb dX4_wearsIn_15 (by decide) ?_
  refine lv_iadd hx hb dX4_wearsIn_16 ?_
  refine xc_Si (As := [.int 9, .int ((r (oF t0 3)) + 1)]) (rest := [.int r_1, .ref h]) ⟨hx, hb, hml, hown, hts⟩ (kX4_least l D cI 9 ((r (oF t0 3)) + 1)) (va_cwS 2 hts gX4_wearsIn_X4_least rfl rfl rfl hs_X4_least ⟨Nat.le_of_ble_eq_true rfl, Nat.le_of_ble_eq_true rfl⟩) hK hP [] rfl rfl hl.1 rfl (Nat.le_of_ble_eq_true rfl) dX4_wearsIn_17 ⟨Nat.zero_le _, Nat.zero_le _⟩ (fun r_3 hr_3 => ?_)
  refine xa_st hx hb hK hP hD hS 0 rfl (j := (oF t0 3)) hr_1 (oF_lt (by omega) (by omega)) (by decide) dX4_wearsIn_20 (fun H locs hP hD hS => ?_)
  obtain ⟨f_4, ef_4⟩ : ∃ z : Nat → Int32, z = upd r (oF t0 3) r_3 := ⟨_, rfl⟩
  replace hP : va_P D vwCl [(h, .inl (cI, 49, .inl (upd r (oF t0 3) r_3)))] H := hP
  replace hD : va_D A [(h, .inl (cI, 49, .inl (upd r (oF t0 3) r_3)))] := hD
  rw [← ef_4] at hP hD
  exact hret 21 _ f_4 _ _ dX4_wearsIn_21 (by clear hret hP hK hts hown hx hb hml hl hD hA hS; subst_vars; first | (simp [wearW]; done) | (simp_all [wearW]; done) | (try simp only [wearW]; (repeat' split) <;> first | rfl | contradiction | (simp_all; done) | (exfalso; simp only [not_and, Int32.lt_iff_toInt_lt, Int32.le_iff_toInt_le] at *; omega))) hP hD hS

set_option maxHeartbeats 4000000 in
set_option maxRecDepth 100000 in
theorem kX4_fallsIn (l : Launch) (D : va_G) (cI : ClassId) (sz : Nat) (h : Nat) (r : RR) (n : Nat) (hI : Inv n r) (p0 : Int32) : Met l yX4_fallsIn wsX4_fallsIn ({ frames := 3, cells := 0, slots := 0, locals := 66 }) (PRW D cI [.ref h, .int p0] [(h, .inl (cI, 49, .inl r))] sz) (va_Qv (S := RR) (fun u => u = fall r n p0) (BRW D [(h, .inl (cI, 49, .inl r))] sz (fun u => [(h, .inl (cI, 49, .inl u))])) (va_A [(h, .inl (cI, 49, .inl r))] sz)) 0 0 (va_A [(h, .inl (cI, 49, .inl r))] sz) := by
  refine st_rwv (cc := cX4_fallsIn) (maxL := 4) (by decide) rfl (Nat.le_of_ble_eq_true rfl) ?_
  intro p e s m below meth c Q ls A hx hb hml hts hown hP hK hD hA hS hl hret
  replace hown : s.vm.findClass RX4 = some m.cls := hown
  replace hl : lv_has ls 4 [(0, .ref h), (1, .int p0)] := hl
  obtain ⟨H, hH⟩ : ∃ z, z = s.heap := ⟨_, rfl⟩
  obtain ⟨locs, hlo⟩ : ∃ z : List Loc, z = [] := ⟨_, rfl⟩
  replace hP : va_P D vwCl [(h, .inl (cI, 49, .inl r))] H := by rw [hH]; exact hP
  replace hS : va_S A s.heap H locs := by rw [hH, hlo]; exact hS
  show W p l e ({ frames := 3, cells := 0, slots := 0, locals := 66 }) s m [.ref h, .int p0].toArray below meth c s.heap [] 0 0 Q (F0 m 0 ls [])
  rw [← hlo]
  suffices hgo : W p l e ({ frames := 3, cells := 0, slots := 0, locals := 66 }) s m [.ref h, .int p0].toArray below meth c H locs 0 0 Q (F0 m 0 ls []) by rw [hH] at hgo; exact hgo
  clear hH hlo
  have hn9 := hI.le
  refine lv_aload_n hx hb dX4_fallsIn_0 rfl (lv_at hl 0 rfl) ?_
  refine lv_iload_n hx hb dX4_fallsIn_1 rfl (lv_at hl 1 rfl) ?_
  refine xc_Si (As := [.ref h, .int p0]) (rest := []) ⟨hx, hb, hml, hown, hts⟩ (kX4_nestIn l D cI h r n hI p0) (va_cwS 2 hts gX4_fallsIn_X4_nestIn rfl rfl rfl hs_X4_nestIn ⟨Nat.le_of_ble_eq_true rfl, Nat.le_of_ble_eq_true rfl⟩) hK hP [0] rfl rfl hl.1 rfl (Nat.le_of_ble_eq_true rfl) dX4_fallsIn_2 ⟨Nat.zero_le _, Nat.zero_le _⟩ (fun r_1 hr_1 => ?_)
  refine lv_istore_n (lv' := [(2, .int r_1), (0, .ref h), (1, .int p0)]) hx hb dX4_fallsIn_5 rfl hl (by decide) rfl (fun ls hl => ?_)
  refine lv_iload_n hx hb dX4_fallsIn_6 rfl (lv_at hl 0 rfl) ?_
  refine lv_if_ne (tgt := 11) hx hb dX4_fallsIn_7 (by decide) (fun c_2 => ?_) (fun c_2 => ?_)
  · skip
    refine lv_iconst (v := 0) hx hb dX4_fallsIn_11 (by decide) ?_
    refine lv_istore_n (lv' := [(3, .int 0), (2, .int r_1), (0, .ref h), (1, .int p0)]) hx hb dX4_fallsIn_12 rfl hl (by decide) rfl (fun ls hl => ?_)
    have lp_13_3 : ∀ (fu : Nat) (i : Nat) (x3 : Int32) (f : RR) (ls : Array Slot) (H : Heap) (locs : List Loc), n - i < fu → (x3 = nI i) → (i ≤ n) → (f = clrN r (nst r n p0) i) → va_P D vwCl [(h, .inl (cI, 49, .inl f))] H → va_D A [(h, .inl (cI, 49, .inl f))] → va_S A s.heap H locs → lv_has ls 4 [(3, .int x3), (2, .int r_1), (0, .ref h), (1, .int p0)] → W p l e ({ frames := 3, cells := 0, slots := 0, locals := 66 }) s m [.ref h, .int p0].toArray below meth c H locs 0 0 Q (F0 m 13 ls []) := by
      intro fu
      induction fu with
      | zero =>
        intro i x3 f ls H locs hfu
        exact absurd hfu (Nat.not_lt_zero _)
      | succ fu ih_3 =>
        intro i x3 f ls H locs hfu hx3 hi hf hP hD hS hl
        have hI_f : Inv n f := (by rw [hf]; exact hI.iclrN _ _)
        refine lv_iload_n hx hb dX4_fallsIn_13 rfl (lv_at hl 0 rfl) ?_
        refine lv_aload_n hx hb dX4_fallsIn_14 rfl (lv_at hl 2 rfl) ?_
        refine lv_iconst (v := 0) hx hb dX4_fallsIn_15 (by decide) ?_
        refine xa_ld hx hb hK hP 0 rfl (j := 0) (rfl : (0 : Int32) = nI 0) (by omega) (by decide) dX4_fallsIn_16 ?_
        refine lv_icmp_ge (tgt := 42) hx hb dX4_fallsIn_17 (by decide) (fun c_4 => ?_) (fun c_4 => ?_)
        · skip
          have n_4 : n ≤ i := (ni_le (a := n) (b := i) hI_f.n0 hx3 (by omega) (by omega)).mp c_4
          refine lv_aload_n hx hb dX4_fallsIn_42 rfl (lv_at hl 2 rfl) ?_
          refine lv_iconst (v := 2) hx hb dX4_fallsIn_43 (by decide) ?_
          refine lv_sipush (v := 999) hx hb dX4_fallsIn_44 (by decide) ?_
          refine lv_aload_n hx hb dX4_fallsIn_47 rfl (lv_at hl 2 rfl) ?_
          refine lv_iconst (v := 2) hx hb dX4_fallsIn_48 (by decide) ?_
          refine xa_ld hx hb hK hP 0 rfl (j := 2) (rfl : (2 : Int32) = nI 2) (by omega) (by decide) dX4_fallsIn_49 ?_
          refine lv_iconst (v := 1) hx hb dX4_fallsIn_50 (by decide) ?_
          refine lv_iadd hx hb dX4_fallsIn_51 ?_
          refine xc_Si (As := [.int 999, .int ((f 2) + 1)]) (rest := [.int 2, .ref h]) ⟨hx, hb, hml, hown, hts⟩ (kX4_least l D cI 999 ((f 2) + 1)) (va_cwS 2 hts gX4_fallsIn_X4_least rfl rfl rfl hs_X4_least ⟨Nat.le_of_ble_eq_true rfl, Nat.le_of_ble_eq_true rfl⟩) hK hP [] rfl rfl hl.1 rfl (Nat.le_of_ble_eq_true rfl) dX4_fallsIn_52 ⟨Nat.zero_le _, Nat.zero_le _⟩ (fun r_5 hr_5 => ?_)
          refine xa_st hx hb hK hP hD hS 0 rfl (j := 2) (rfl : (2 : Int32) = nI 2) (by omega) (by decide) dX4_fallsIn_55 (fun H locs hP hD hS => ?_)
          obtain ⟨f_6, ef_6⟩ : ∃ z : Nat → Int32, z = upd f 2 r_5 := ⟨_, rfl⟩
          replace hP : va_P D vwCl [(h, .inl (cI, 49, .inl (upd f 2 r_5)))] H := hP
          replace hD : va_D A [(h, .inl (cI, 49, .inl (upd f 2 r_5)))] := hD
          rw [← ef_6] at hP hD
          have hI_f_6 : Inv n f_6 := (by rw [ef_6]; exact Inv.u3 hI_f (by omega) (by omega) _)
          exact hret 56 _ f_6 _ _ dX4_fallsIn_56 (by have e9 : i = n := (by omega); subst e9; clear ih_3; clear hret hP hK hts hown hx hb hml hl hD hA hS; subst_vars; simp_all [fall]) hP hD hS
        have n_4 : ¬ n ≤ i := fun q => c_4 ((ni_le (a := n) (b := i) hI_f.n0 hx3 (by omega) (by omega)).mpr q)
        refine lv_iload_n hx hb dX4_fallsIn_20 rfl (lv_at hl 1 rfl) ?_
        refine lv_iload_n hx hb dX4_fallsIn_21 rfl (lv_at hl 0 rfl) ?_
        refine xc_Si (As := [.int r_1, .int x3]) (rest := []) ⟨hx, hb, hml, hown, hts⟩ (kX4_has l D cI r_1 x3 i hx3 (by omega)) (va_cwS 2 hts gX4_fallsIn_X4_has rfl rfl rfl hs_X4_has ⟨Nat.le_of_ble_eq_true rfl, Nat.le_of_ble_eq_true rfl⟩) hK hP [] rfl rfl hl.1 rfl (Nat.le_of_ble_eq_true rfl) dX4_fallsIn_22 ⟨Nat.zero_le _, Nat.zero_le _⟩ (fun r_7 hr_7 => ?_)
        refine lv_if_eq (tgt := 36) hx hb dX4_fallsIn_25 (by decide) (fun c_8 => ?_) (fun c_8 => ?_)
        · skip
          have hb_8 : bt r_1 i = false := bool_f hr_7 c_8
          obtain ⟨x_9, ex_9⟩ : ∃ z : Int32, z = x3 + 1 := ⟨_, rfl⟩
          refine lv_iinc (v := x_9) (lv' := [(3, .int x_9), (2, .int r_1), (0, .ref h), (1, .int p0)]) hx hb dX4_fallsIn_36 hl (k := 0) rfl (by rw [ex_9]; rfl) (by decide) rfl (fun ls hl => ?_)
          refine lv_goto (tgt := 13) hx hb dX4_fallsIn_39 (by decide) ?_
          exact ih_3 (i + 1) x_9 f _ _ _ (by omega) (ni_add (a := i) (b := 1) ex_9 hx3 (rfl : (1 : Int32) = nI 1)) (by omega) (by rw [hr_1] at hb_8; rw [clrN, if_neg (by rw [hb_8]; simp)]; exact hf) hP hD hS (lv_sub hl [0, 1, 2, 3] rfl)
        have hb_8 : bt r_1 i = true := bool_t hr_7 c_8
        refine lv_aload_n hx hb dX4_fallsIn_28 rfl (lv_at hl 2 rfl) ?_
        refine lv_iload_n hx hb dX4_fallsIn_29 rfl (lv_at hl 0 rfl) ?_
        refine lv_iconst (v := 4) hx hb dX4_fallsIn_30 (by decide) ?_
        refine xc_Si (As := [.int x3, .int 4]) (rest := [.ref h]) ⟨hx, hb, hml, hown, hts⟩ (kX4_of l D cI x3 4 i 4 hx3 (rfl : (4 : Int32) = nI 4)) (va_cwS 2 hts gX4_fallsIn_X4_of rfl rfl rfl hs_X4_of ⟨Nat.le_of_ble_eq_true rfl, Nat.le_of_ble_eq_true rfl⟩) hK hP [] rfl rfl hl.1 rfl (Nat.le_of_ble_eq_true rfl) dX4_fallsIn_31 ⟨Nat.zero_le _, Nat.zero_le _⟩ (fun r_10 hr_10 => ?_)
        refine lv_iconst (v := 0) hx hb dX4_fallsIn_34 (by decide) ?_
        refine xa_st hx hb hK hP hD hS 0 rfl (j := (oF i 4)) hr_10 (oF_lt (by omega) (by omega)) (by decide) dX4_fallsIn_35 (fun H locs hP hD hS => ?_)
        obtain ⟨f_11, ef_11⟩ : ∃ z : Nat → Int32, z = upd f (oF i 4) 0 := ⟨_, rfl⟩
        replace hP : va_P D vwCl [(h, .inl (cI, 49, .inl (upd f (oF i 4) 0)))] H := hP
        replace hD : va_D A [(h, .inl (cI, 49, .inl (upd f (oF i 4) 0)))] := hD
        rw [← ef_11] at hP hD
        obtain ⟨x_12, ex_12⟩ : ∃ z : Int32, z = x3 + 1 := ⟨_, rfl⟩
        refine lv_iinc (v := x_12) (lv' := [(3, .int x_12), (2, .int r_1), (0, .ref h), (1, .int p0)]) hx hb dX4_fallsIn_36 hl (k := 0) rfl (by rw [ex_12]; rfl) (by decide) rfl (fun ls hl => ?_)
        refine lv_goto (tgt := 13) hx hb dX4_fallsIn_39 (by decide) ?_
        exact ih_3 (i + 1) x_12 f_11 _ _ _ (by omega) (ni_add (a := i) (b := 1) ex_12 hx3 (rfl : (1 : Int32) = nI 1)) (by omega) (by rw [hr_1] at hb_8; rw [clrN, if_pos hb_8, ← hf]; exact ef_11) hP hD hS (lv_sub hl [0, 1, 2, 3] rfl)
    exact lp_13_3 ((n - 0) + 1) 0 0 r _ _ _ (by omega) (rfl : (0 : Int32) = nI 0) (by omega) rfl hP hD hS (lv_sub hl [0, 1, 2, 3] rfl)
  exact hret 10 _ r _ _ dX4_fallsIn_10 (by clear hret hP hK hts hown hx hb hml hl hD hA hS; subst_vars; first | (simp [fall, c_2]; done) | (simp_all [fall]; done) | (try simp only [fall]; (repeat' split) <;> first | rfl | contradiction | (simp_all; done) | (exfalso; simp only [not_and, Int32.lt_iff_toInt_lt, Int32.le_iff_toInt_le] at *; omega))) hP hD hS

set_option maxHeartbeats 4000000 in
set_option maxRecDepth 100000 in
theorem kX4_day (l : Launch) (D : va_G) (cI : ClassId) (sz : Nat) (h : Nat) (r : RR) (n : Nat) (hI : Inv n r) : Met l yX4_day wsX4_day ({ frames := 5, cells := 0, slots := 0, locals := 110 }) (PRW D cI [.ref h] [(h, .inl (cI, 49, .inl r))] sz) (va_Qi (S := RR) (fun v u => v = dayS r n ∧ u = dayR r n) (BRW D [(h, .inl (cI, 49, .inl r))] sz (fun u => [(h, .inl (cI, 49, .inl u))])) (va_A [(h, .inl (cI, 49, .inl r))] sz)) 0 0 (va_A [(h, .inl (cI, 49, .inl r))] sz) := by
  refine st_rwi (cc := cX4_day) (maxL := 3) (rt := .int) (by decide) rfl (Nat.le_of_ble_eq_true rfl) (fun _ _ _ => rfl) ?_
  intro p e s m below meth c Q ls A hx hb hml hts hown hP hK hD hA hS hl hret
  replace hown : s.vm.findClass RX4 = some m.cls := hown
  replace hl : lv_has ls 3 [(0, .ref h)] := hl
  obtain ⟨H, hH⟩ : ∃ z, z = s.heap := ⟨_, rfl⟩
  obtain ⟨locs, hlo⟩ : ∃ z : List Loc, z = [] := ⟨_, rfl⟩
  replace hP : va_P D vwCl [(h, .inl (cI, 49, .inl r))] H := by rw [hH]; exact hP
  replace hS : va_S A s.heap H locs := by rw [hH, hlo]; exact hS
  show W p l e ({ frames := 5, cells := 0, slots := 0, locals := 110 }) s m [.ref h].toArray below meth c s.heap [] 0 0 Q (F0 m 0 ls [])
  rw [← hlo]
  suffices hgo : W p l e ({ frames := 5, cells := 0, slots := 0, locals := 110 }) s m [.ref h].toArray below meth c H locs 0 0 Q (F0 m 0 ls []) by rw [hH] at hgo; exact hgo
  clear hH hlo
  have hn9 := hI.le
  refine lv_aload_n hx hb dX4_day_0 rfl (lv_at hl 0 rfl) ?_
  refine lv_iconst (v := 1) hx hb dX4_day_1 (by decide) ?_
  refine lv_dup2_11 hx hb dX4_day_2 rfl rfl ?_
  refine xa_ld hx hb hK hP 0 rfl (j := 1) (rfl : (1 : Int32) = nI 1) (by omega) (by decide) dX4_day_3 ?_
  refine lv_iconst (v := 1) hx hb dX4_day_4 (by decide) ?_
  refine lv_iadd hx hb dX4_day_5 ?_
  refine xa_st hx hb hK hP hD hS 0 rfl (j := 1) (rfl : (1 : Int32) = nI 1) (by omega) (by decide) dX4_day_6 (fun H locs hP hD hS => ?_)
  obtain ⟨f_1, ef_1⟩ : ∃ z : Nat → Int32, z = upd r 1 ((r 1) + 1) := ⟨_, rfl⟩
  replace hP : va_P D vwCl [(h, .inl (cI, 49, .inl (upd r 1 ((r 1) + 1))))] H := hP
  replace hD : va_D A [(h, .inl (cI, 49, .inl (upd r 1 ((r 1) + 1))))] := hD
  rw [← ef_1] at hP hD
  have hI_f_1 : Inv n f_1 := (by rw [ef_1]; exact Inv.u3 hI (by omega) (by omega) _)
  have j_42_2 : ∀ (fj : RR) (ls : Array Slot) (H : Heap) (locs : List Loc), (fj = wrA f_1 n) → va_P D vwCl [(h, .inl (cI, 49, .inl fj))] H → va_D A [(h, .inl (cI, 49, .inl fj))] → va_S A s.heap H locs → lv_has ls 3 [(0, .ref h)] → W p l e ({ frames := 5, cells := 0, slots := 0, locals := 110 }) s m [.ref h].toArray below meth c H locs 0 0 Q (F0 m 42 ls []) := by
    intro fj ls H locs hfj hP hD hS hl
    have hI_fj : Inv n fj := (by rw [hfj]; exact hI_f_1.iwrA (Nat.le_refl _))
    refine lv_iconst (v := 0) hx hb dX4_day_42 (by decide) ?_
    refine lv_istore_n (lv' := [(1, .int 0), (0, .ref h)]) hx hb dX4_day_43 rfl hl (by decide) rfl (fun ls hl => ?_)
    have lp_44_3 : ∀ (fu : Nat) (w : Nat) (x1 : Int32) (f2 : RR) (ls : Array Slot) (H : Heap) (locs : List Loc), 4 - w < fu → (x1 = nI w) → (w ≤ 4) → (f2 = tks fj n w) → va_P D vwCl [(h, .inl (cI, 49, .inl f2))] H → va_D A [(h, .inl (cI, 49, .inl f2))] → va_S A s.heap H locs → lv_has ls 3 [(1, .int x1), (0, .ref h)] → W p l e ({ frames := 5, cells := 0, slots := 0, locals := 110 }) s m [.ref h].toArray below meth c H locs 0 0 Q (F0 m 44 ls []) := by
      intro fu
      induction fu with
      | zero =>
        intro w x1 f2 ls H locs hfu
        exact absurd hfu (Nat.not_lt_zero _)
      | succ fu ih_3 =>
        intro w x1 f2 ls H locs hfu hx1 hw hf2 hP hD hS hl
        have hI_f2 : Inv n f2 := (by rw [hf2]; exact hI_fj.itks _)
        refine lv_iload_n hx hb dX4_day_44 rfl (lv_at hl 0 rfl) ?_
        refine lv_iconst (v := 4) hx hb dX4_day_45 (by decide) ?_
        refine lv_icmp_ge (tgt := 73) hx hb dX4_day_46 (by decide) (fun c_4 => ?_) (fun c_4 => ?_)
        · skip
          have n_4 : 4 ≤ w := (ni_le (a := 4) (b := w) (rfl : (4 : Int32) = nI 4) hx1 (by decide) (by omega)).mp c_4
          refine lv_iconst (v := 0) hx hb dX4_day_73 (by decide) ?_
          refine lv_istore_n (lv' := [(1, .int 0), (0, .ref h)]) hx hb dX4_day_74 rfl hl (by decide) rfl (fun ls hl => ?_)
          refine lv_iconst (v := 0) hx hb dX4_day_75 (by decide) ?_
          refine lv_istore_n (lv' := [(2, .int 0), (1, .int 0), (0, .ref h)]) hx hb dX4_day_76 rfl hl (by decide) rfl (fun ls hl => ?_)
          have lp_77_5 : ∀ (fu : Nat) (w2 : Nat) (x2 : Int32) (x3 : Int32) (f3 : RR) (ls : Array Slot) (H : Heap) (locs : List Loc), 4 - w2 < fu → (x2 = nI w2) → (w2 ≤ 4) → (f3 = flR f2 n w2) → (x3 = flS f2 n w2) → va_P D vwCl [(h, .inl (cI, 49, .inl f3))] H → va_D A [(h, .inl (cI, 49, .inl f3))] → va_S A s.heap H locs → lv_has ls 3 [(2, .int x2), (1, .int x3), (0, .ref h)] → W p l e ({ frames := 5, cells := 0, slots := 0, locals := 110 }) s m [.ref h].toArray below meth c H locs 0 0 Q (F0 m 77 ls []) := by
            intro fu
            induction fu with
            | zero =>
              intro w2 x2 x3 f3 ls H locs hfu
              exact absurd hfu (Nat.not_lt_zero _)
            | succ fu ih_5 =>
              intro w2 x2 x3 f3 ls H locs hfu hx2 hw2 hf3 hx3 hP hD hS hl
              have hI_f3 : Inv n f3 := (by rw [hf3]; exact hI_f2.iflR _)
              refine lv_iload_n hx hb dX4_day_77 rfl (lv_at hl 0 rfl) ?_
              refine lv_iconst (v := 4) hx hb dX4_day_78 (by decide) ?_
              refine lv_icmp_ge (tgt := 114) hx hb dX4_day_79 (by decide) (fun c_6 => ?_) (fun c_6 => ?_)
              · skip
                have n_6 : 4 ≤ w2 := (ni_le (a := 4) (b := w2) (rfl : (4 : Int32) = nI 4) hx2 (by decide) (by omega)).mp c_6
                refine lv_iload_n hx hb dX4_day_114 rfl (lv_at hl 1 rfl) ?_
                exact hret 115 _ x3 f3 _ _ dX4_day_115 (by have e9 : w2 = 4 := (by omega); have e8 : w = 4 := (by omega); subst e9; subst e8; rw [hx3, hf3, hf2, hfj, ef_1]; exact ⟨rfl, rfl⟩) hP hD hS
              have n_6 : ¬ 4 ≤ w2 := fun q => c_6 ((ni_le (a := 4) (b := w2) (rfl : (4 : Int32) = nI 4) hx2 (by decide) (by omega)).mpr q)
              refine lv_aload_n hx hb dX4_day_82 rfl (lv_at hl 2 rfl) ?_
              refine lv_aload_n hx hb dX4_day_83 rfl (lv_at hl 2 rfl) ?_
              refine lv_iload_n hx hb dX4_day_84 rfl (lv_at hl 0 rfl) ?_
              refine xc_Si (As := [.ref h, .int x2]) (rest := [.ref h]) ⟨hx, hb, hml, hown, hts⟩ (kX4_nestIn l D cI h f3 n hI_f3 x2) (va_cwS 2 hts gX4_day_X4_nestIn rfl rfl rfl hs_X4_nestIn ⟨Nat.le_of_ble_eq_true rfl, Nat.le_of_ble_eq_true rfl⟩) hK hP [0] rfl rfl hl.1 rfl (Nat.le_of_ble_eq_true rfl) dX4_day_85 ⟨Nat.zero_le _, Nat.zero_le _⟩ (fun r_7 hr_7 => ?_)
              refine xc_Si (As := [.ref h, .int r_7]) (rest := []) ⟨hx, hb, hml, hown, hts⟩ (kX4_holdsSet l D cI h f3 n hI_f3 r_7) (va_cwS 2 hts gX4_day_X4_holdsSet rfl rfl rfl hs_X4_holdsSet ⟨Nat.le_of_ble_eq_true rfl, Nat.le_of_ble_eq_true rfl⟩) hK hP [0] rfl rfl hl.1 rfl (Nat.le_of_ble_eq_true rfl) dX4_day_88 ⟨Nat.zero_le _, Nat.zero_le _⟩ (fun r_8 hr_8 => ?_)
              refine lv_if_eq (tgt := 97) hx hb dX4_day_91 (by decide) (fun c_9 => ?_) (fun c_9 => ?_)
              · skip
                have hb_9 : hld f3 n r_7 = false := bool_f hr_8 c_9
                refine lv_aload_n hx hb dX4_day_97 rfl (lv_at hl 2 rfl) ?_
                refine lv_iload_n hx hb dX4_day_98 rfl (lv_at hl 0 rfl) ?_
                refine xw_Sv (As := [.ref h, .int x2]) (rest := []) (Wn := fun u => [(h, .inl (cI, 49, .inl u))]) (Wr := []) ⟨hx, hb, hml, hown, hts⟩ (kX4_fallsIn l D cI H.size h f3 n hI_f3 x2) (va_cwS 2 hts gX4_day_X4_fallsIn rfl rfl rfl hs_X4_fallsIn ⟨Nat.le_of_ble_eq_true rfl, Nat.le_of_ble_eq_true rfl⟩) hK hP hD hS hA [0] [] [0] rfl rfl (by decide) (by decide) (by decide) (by decide) (fun u => rfl) rfl hl.1 rfl (Nat.le_of_ble_eq_true rfl) dX4_day_99 ⟨Nat.zero_le _, Nat.zero_le _⟩ (fun u_10 H locs hw_10 hP hD hS => ?_)
                have hI_u_10 : Inv n u_10 := (by rw [hw_10]; exact hI_f3.ifall _)
                refine lv_iload_n hx hb dX4_day_102 rfl (lv_at hl 1 rfl) ?_
                refine lv_iconst (v := 1) hx hb dX4_day_103 (by decide) ?_
                refine lv_iload_n hx hb dX4_day_104 rfl (lv_at hl 0 rfl) ?_
                refine lv_ishl hx hb dX4_day_105 ?_
                refine lv_ior hx hb dX4_day_106 ?_
                refine lv_topi (fun x_11 ex_11 => ?_)
                refine lv_istore_n (lv' := [(1, .int x_11), (2, .int x2), (0, .ref h)]) hx hb dX4_day_107 rfl hl (by decide) rfl (fun ls hl => ?_)
                obtain ⟨x_12, ex_12⟩ : ∃ z : Int32, z = x2 + 1 := ⟨_, rfl⟩
                refine lv_iinc (v := x_12) (lv' := [(2, .int x_12), (1, .int x_11), (0, .ref h)]) hx hb dX4_day_108 hl (k := 1) rfl (by rw [ex_12]; rfl) (by decide) rfl (fun ls hl => ?_)
                refine lv_goto (tgt := 77) hx hb dX4_day_111 (by decide) ?_
                exact ih_5 (w2 + 1) x_12 x_11 u_10 _ _ _ (by omega) (ni_add (a := w2) (b := 1) ex_12 hx2 (rfl : (1 : Int32) = nI 1)) (by omega) (by rw [hr_7, hx2] at hb_9; rw [flR, ← hf3, if_neg (by rw [hb_9]; simp), hw_10, hx2]) (by rw [hr_7, hx2] at hb_9; rw [flS, ← hf3, if_neg (by rw [hb_9]; simp), ← hx3, ex_11, hx2]; rfl) hP hD hS (lv_sub hl [0, 1, 2] rfl)
              have hb_9 : hld f3 n r_7 = true := bool_t hr_8 c_9
              refine lv_goto (tgt := 108) hx hb dX4_day_94 (by decide) ?_
              obtain ⟨x_13, ex_13⟩ : ∃ z : Int32, z = x2 + 1 := ⟨_, rfl⟩
              refine lv_iinc (v := x_13) (lv' := [(2, .int x_13), (1, .int x3), (0, .ref h)]) hx hb dX4_day_108 hl (k := 0) rfl (by rw [ex_13]; rfl) (by decide) rfl (fun ls hl => ?_)
              refine lv_goto (tgt := 77) hx hb dX4_day_111 (by decide) ?_
              exact ih_5 (w2 + 1) x_13 x3 f3 _ _ _ (by omega) (ni_add (a := w2) (b := 1) ex_13 hx2 (rfl : (1 : Int32) = nI 1)) (by omega) (by rw [hr_7, hx2] at hb_9; rw [flR, ← hf3, if_pos hb_9]) (by rw [hr_7, hx2] at hb_9; rw [flS, ← hf3, if_pos hb_9]; exact hx3) hP hD hS (lv_sub hl [0, 1, 2] rfl)
          exact lp_77_5 ((4 - 0) + 1) 0 0 0 f2 _ _ _ (by omega) (rfl : (0 : Int32) = nI 0) (by omega) rfl rfl hP hD hS (lv_sub hl [0, 1, 2] rfl)
        have n_4 : ¬ 4 ≤ w := fun q => c_4 ((ni_le (a := 4) (b := w) (rfl : (4 : Int32) = nI 4) hx1 (by decide) (by omega)).mpr q)
        refine lv_aload_n hx hb dX4_day_49 rfl (lv_at hl 1 rfl) ?_
        refine lv_iload_n hx hb dX4_day_50 rfl (lv_at hl 0 rfl) ?_
        refine xc_Si (As := [.ref h, .int x1]) (rest := []) ⟨hx, hb, hml, hown, hts⟩ (kX4_leastSaid l D cI h f2 n hI_f2 x1) (va_cwS 2 hts gX4_day_X4_leastSaid rfl rfl rfl hs_X4_leastSaid ⟨Nat.le_of_ble_eq_true rfl, Nat.le_of_ble_eq_true rfl⟩) hK hP [0] rfl rfl hl.1 rfl (Nat.le_of_ble_eq_true rfl) dX4_day_51 ⟨Nat.zero_le _, Nat.zero_le _⟩ (fun r_14 hr_14 => ?_)
        refine lv_istore_n (lv' := [(2, .int r_14), (1, .int x1), (0, .ref h)]) hx hb dX4_day_54 rfl hl (by decide) rfl (fun ls hl => ?_)
        refine lv_iload_n hx hb dX4_day_55 rfl (lv_at hl 0 rfl) ?_
        refine lv_if_lt (tgt := 67) hx hb dX4_day_56 (by decide) (fun c_15 => ?_) (fun c_15 => ?_)
        · skip
          obtain ⟨x_16, ex_16⟩ : ∃ z : Int32, z = x1 + 1 := ⟨_, rfl⟩
          refine lv_iinc (v := x_16) (lv' := [(1, .int x_16), (2, .int r_14), (0, .ref h)]) hx hb dX4_day_67 hl (k := 1) rfl (by rw [ex_16]; rfl) (by decide) rfl (fun ls hl => ?_)
          refine lv_goto (tgt := 44) hx hb dX4_day_70 (by decide) ?_
          exact ih_3 (w + 1) x_16 f2 _ _ _ (by omega) (ni_add (a := w) (b := 1) ex_16 hx1 (rfl : (1 : Int32) = nI 1)) (by omega) (by have q : ¬ ff (herP f2 x1 0) n < n := (fun q => by (rw [hr_14, if_pos q] at c_15; exact absurd c_15 (nI_pos (by have := hI_f2.le; omega)))); rw [hx1] at q; rw [tks, tkW, ← hf2, if_neg q]) hP hD hS (lv_sub hl [0, 2] rfl)
        have hq : ff (herP f2 x1 0) n < n := by
          by_cases q : ff (herP f2 x1 0) n < n
          · exact q
          · rw [hr_14, if_neg q] at c_15; exact absurd (by decide) c_15
        refine lv_aload_n hx hb dX4_day_59 rfl (lv_at hl 2 rfl) ?_
        refine lv_iload_n hx hb dX4_day_60 rfl (lv_at hl 0 rfl) ?_
        refine lv_iconst (v := 4) hx hb dX4_day_61 (by decide) ?_
        refine xc_Si (As := [.int r_14, .int 4]) (rest := [.ref h]) ⟨hx, hb, hml, hown, hts⟩ (kX4_of l D cI r_14 4 (ff (herP f2 x1 0) n) 4 (hr_14.trans (if_pos hq)) (rfl : (4 : Int32) = nI 4)) (va_cwS 2 hts gX4_day_X4_of rfl rfl rfl hs_X4_of ⟨Nat.le_of_ble_eq_true rfl, Nat.le_of_ble_eq_true rfl⟩) hK hP [] rfl rfl hl.1 rfl (Nat.le_of_ble_eq_true rfl) dX4_day_62 ⟨Nat.zero_le _, Nat.zero_le _⟩ (fun r_17 hr_17 => ?_)
        refine lv_iconst (v := 1) hx hb dX4_day_65 (by decide) ?_
        refine xa_st hx hb hK hP hD hS 0 rfl (j := (oF (ff (herP f2 x1 0) n) 4)) hr_17 (oF_lt (by omega) (by omega)) (by decide) dX4_day_66 (fun H locs hP hD hS => ?_)
        obtain ⟨f_18, ef_18⟩ : ∃ z : Nat → Int32, z = upd f2 (oF (ff (herP f2 x1 0) n) 4) 1 := ⟨_, rfl⟩
        replace hP : va_P D vwCl [(h, .inl (cI, 49, .inl (upd f2 (oF (ff (herP f2 x1 0) n) 4) 1)))] H := hP
        replace hD : va_D A [(h, .inl (cI, 49, .inl (upd f2 (oF (ff (herP f2 x1 0) n) 4) 1)))] := hD
        rw [← ef_18] at hP hD
        obtain ⟨x_19, ex_19⟩ : ∃ z : Int32, z = x1 + 1 := ⟨_, rfl⟩
        refine lv_iinc (v := x_19) (lv' := [(1, .int x_19), (2, .int r_14), (0, .ref h)]) hx hb dX4_day_67 hl (k := 1) rfl (by rw [ex_19]; rfl) (by decide) rfl (fun ls hl => ?_)
        refine lv_goto (tgt := 44) hx hb dX4_day_70 (by decide) ?_
        exact ih_3 (w + 1) x_19 f_18 _ _ _ (by omega) (ni_add (a := w) (b := 1) ex_19 hx1 (rfl : (1 : Int32) = nI 1)) (by omega) (by rw [hx1] at hq; rw [tks, tkW, ← hf2, if_pos hq]; rw [hx1] at ef_18; exact ef_18) hP hD hS (lv_sub hl [0, 2] rfl)
    exact lp_44_3 ((4 - 0) + 1) 0 0 fj _ _ _ (by omega) (rfl : (0 : Int32) = nI 0) (by omega) rfl hP hD hS (lv_sub hl [0, 1] rfl)
  refine lv_iconst (v := 0) hx hb dX4_day_7 (by decide) ?_
  refine lv_istore_n (lv' := [(1, .int 0), (0, .ref h)]) hx hb dX4_day_8 rfl hl (by decide) rfl (fun ls hl => ?_)
  have lp_9_20 : ∀ (fu : Nat) (i : Nat) (x1 : Int32) (f : RR) (ls : Array Slot) (H : Heap) (locs : List Loc), n - i < fu → (x1 = nI i) → (i ≤ n) → (f = wrA f_1 i) → va_P D vwCl [(h, .inl (cI, 49, .inl f))] H → va_D A [(h, .inl (cI, 49, .inl f))] → va_S A s.heap H locs → lv_has ls 3 [(1, .int x1), (0, .ref h)] → W p l e ({ frames := 5, cells := 0, slots := 0, locals := 110 }) s m [.ref h].toArray below meth c H locs 0 0 Q (F0 m 9 ls []) := by
    intro fu
    induction fu with
    | zero =>
      intro i x1 f ls H locs hfu
      exact absurd hfu (Nat.not_lt_zero _)
    | succ fu ih_20 =>
      intro i x1 f ls H locs hfu hx1 hi hf hP hD hS hl
      have hI_f : Inv n f := (by rw [hf]; exact hI_f_1.iwrA (by omega))
      refine lv_iload_n hx hb dX4_day_9 rfl (lv_at hl 0 rfl) ?_
      refine lv_aload_n hx hb dX4_day_10 rfl (lv_at hl 1 rfl) ?_
      refine lv_iconst (v := 0) hx hb dX4_day_11 (by decide) ?_
      refine xa_ld hx hb hK hP 0 rfl (j := 0) (rfl : (0 : Int32) = nI 0) (by omega) (by decide) dX4_day_12 ?_
      refine lv_icmp_ge (tgt := 42) hx hb dX4_day_13 (by decide) (fun c_21 => ?_) (fun c_21 => ?_)
      · skip
        have n_21 : n ≤ i := (ni_le (a := n) (b := i) hI_f.n0 hx1 (by omega) (by omega)).mp c_21
        exact j_42_2 f _ _ _ (by have e9 : i = n := (by omega); subst e9; exact hf) hP hD hS (lv_sub hl [1] rfl)
      have n_21 : ¬ n ≤ i := fun q => c_21 ((ni_le (a := n) (b := i) hI_f.n0 hx1 (by omega) (by omega)).mpr q)
      refine lv_aload_n hx hb dX4_day_16 rfl (lv_at hl 1 rfl) ?_
      refine lv_iconst (v := 1) hx hb dX4_day_17 (by decide) ?_
      refine xa_ld hx hb hK hP 0 rfl (j := 1) (rfl : (1 : Int32) = nI 1) (by omega) (by decide) dX4_day_18 ?_
      refine lv_iconst (v := 3) hx hb dX4_day_19 (by decide) ?_
      refine lv_irem hx hb dX4_day_20 (by decide) ?_
      refine lv_if_ne (tgt := 42) hx hb dX4_day_21 (by decide) (fun c_22 => ?_) (fun c_22 => ?_)
      · skip
        exact j_42_2 f _ _ _ (by clear ih_20; clear j_42_2; clear hret hP hK hts hown hx hb hml hl hD hA hS; rw [hf] at c_22; simp only [wrA_lo (show 1 < 4 by omega)] at c_22; rw [hf]; simp [wrA, c_22]) hP hD hS (lv_sub hl [1] rfl)
      refine lv_iload_n hx hb dX4_day_24 rfl (lv_at hl 0 rfl) ?_
      refine lv_aload_n hx hb dX4_day_25 rfl (lv_at hl 1 rfl) ?_
      refine lv_iconst (v := 3) hx hb dX4_day_26 (by decide) ?_
      refine xa_ld hx hb hK hP 0 rfl (j := 3) (rfl : (3 : Int32) = nI 3) (by omega) (by decide) dX4_day_27 ?_
      refine lv_icmp_eq (tgt := 36) hx hb dX4_day_28 (by decide) (fun c_23 => ?_) (fun c_23 => ?_)
      · skip
        obtain ⟨x_24, ex_24⟩ : ∃ z : Int32, z = x1 + 1 := ⟨_, rfl⟩
        refine lv_iinc (v := x_24) (lv' := [(1, .int x_24), (0, .ref h)]) hx hb dX4_day_36 hl (k := 0) rfl (by rw [ex_24]; rfl) (by decide) rfl (fun ls hl => ?_)
        refine lv_goto (tgt := 9) hx hb dX4_day_39 (by decide) ?_
        exact ih_20 (i + 1) x_24 f _ _ _ (by omega) (ni_add (a := i) (b := 1) ex_24 hx1 (rfl : (1 : Int32) = nI 1)) (by omega) (by clear ih_20; clear j_42_2; clear hret hP hK hts hown hx hb hml hl hD hA hS; subst_vars; simp only [wrA_lo (show 1 < 4 by omega)] at *; simp_all [wrA, wearN]) hP hD hS (lv_sub hl [0, 1] rfl)
      refine lv_aload_n hx hb dX4_day_31 rfl (lv_at hl 1 rfl) ?_
      refine lv_iload_n hx hb dX4_day_32 rfl (lv_at hl 0 rfl) ?_
      refine xw_Sv (As := [.ref h, .int x1]) (rest := []) (Wn := fun u => [(h, .inl (cI, 49, .inl u))]) (Wr := []) ⟨hx, hb, hml, hown, hts⟩ (kX4_wearsIn l D cI H.size h f n hI_f x1 i hx1 (by omega)) (va_cwS 2 hts gX4_day_X4_wearsIn rfl rfl rfl hs_X4_wearsIn ⟨Nat.le_of_ble_eq_true rfl, Nat.le_of_ble_eq_true rfl⟩) hK hP hD hS hA [0] [] [0] rfl rfl (by decide) (by decide) (by decide) (by decide) (fun u => rfl) rfl hl.1 rfl (Nat.le_of_ble_eq_true rfl) dX4_day_33 ⟨Nat.zero_le _, Nat.zero_le _⟩ (fun u_25 H locs hw_25 hP hD hS => ?_)
      have hI_u_25 : Inv n u_25 := (by rw [hw_25]; exact hI_f.iwearW (by omega))
      obtain ⟨x_26, ex_26⟩ : ∃ z : Int32, z = x1 + 1 := ⟨_, rfl⟩
      refine lv_iinc (v := x_26) (lv' := [(1, .int x_26), (0, .ref h)]) hx hb dX4_day_36 hl (k := 0) rfl (by rw [ex_26]; rfl) (by decide) rfl (fun ls hl => ?_)
      refine lv_goto (tgt := 9) hx hb dX4_day_39 (by decide) ?_
      exact ih_20 (i + 1) x_26 u_25 _ _ _ (by omega) (ni_add (a := i) (b := 1) ex_26 hx1 (rfl : (1 : Int32) = nI 1)) (by omega) (by clear ih_20; clear j_42_2; clear hret hP hK hts hown hx hb hml hl hD hA hS; subst_vars; simp only [wrA_lo (show 1 < 4 by omega)] at *; simp_all [wrA, wearN]) hP hD hS (lv_sub hl [0, 1] rfl)
  exact lp_9_20 ((n - 0) + 1) 0 0 f_1 _ _ _ (by omega) (rfl : (0 : Int32) = nI 0) (by omega) (by rw [wrA]; split <;> rfl) hP hD hS (lv_sub hl [0, 1] rfl)

set_option maxHeartbeats 4000000 in
set_option maxRecDepth 100000 in
theorem kX4_daysOn (l : Launch) (D : va_G) (cI : ClassId) (sz : Nat) (h : Nat) (r : RR) (n : Nat) (hI : Inv n r) (p0 : Int32) (t0 : Nat) (hp0 : p0 = nI t0) (ht0 : t0 ≤ 1000000) : Met l yX4_daysOn wsX4_daysOn ({ frames := 6, cells := 0, slots := 0, locals := 132 }) (PRW D cI [.ref h, .int p0] [(h, .inl (cI, 49, .inl r))] sz) (va_Qi (S := RR) (fun v u => v = nI (dsV r n t0) ∧ u = dsR r n t0) (BRW D [(h, .inl (cI, 49, .inl r))] sz (fun u => [(h, .inl (cI, 49, .inl u))])) (va_A [(h, .inl (cI, 49, .inl r))] sz)) 0 0 (va_A [(h, .inl (cI, 49, .inl r))] sz) := by
  refine st_rwi (cc := cX4_daysOn) (maxL := 4) (rt := .int) (by decide) rfl (Nat.le_of_ble_eq_true rfl) (fun _ _ _ => rfl) ?_
  intro p e s m below meth c Q ls A hx hb hml hts hown hP hK hD hA hS hl hret
  replace hown : s.vm.findClass RX4 = some m.cls := hown
  replace hl : lv_has ls 4 [(0, .ref h), (1, .int p0)] := hl
  obtain ⟨H, hH⟩ : ∃ z, z = s.heap := ⟨_, rfl⟩
  obtain ⟨locs, hlo⟩ : ∃ z : List Loc, z = [] := ⟨_, rfl⟩
  replace hP : va_P D vwCl [(h, .inl (cI, 49, .inl r))] H := by rw [hH]; exact hP
  replace hS : va_S A s.heap H locs := by rw [hH, hlo]; exact hS
  show W p l e ({ frames := 6, cells := 0, slots := 0, locals := 132 }) s m [.ref h, .int p0].toArray below meth c s.heap [] 0 0 Q (F0 m 0 ls [])
  rw [← hlo]
  suffices hgo : W p l e ({ frames := 6, cells := 0, slots := 0, locals := 132 }) s m [.ref h, .int p0].toArray below meth c H locs 0 0 Q (F0 m 0 ls []) by rw [hH] at hgo; exact hgo
  clear hH hlo
  have hn9 := hI.le
  refine lv_iconst (v := 0) hx hb dX4_daysOn_0 (by decide) ?_
  refine lv_istore_n (lv' := [(2, .int 0), (0, .ref h), (1, .int p0)]) hx hb dX4_daysOn_1 rfl hl (by decide) rfl (fun ls hl => ?_)
  refine lv_iconst (v := 0) hx hb dX4_daysOn_2 (by decide) ?_
  refine lv_istore_n (lv' := [(3, .int 0), (2, .int 0), (0, .ref h), (1, .int p0)]) hx hb dX4_daysOn_3 rfl hl (by decide) rfl (fun ls hl => ?_)
  have lp_4_1 : ∀ (fu : Nat) (i : Nat) (x3 : Int32) (x2 : Int32) (f : RR) (ls : Array Slot) (H : Heap) (locs : List Loc), t0 - i < fu → (x3 = nI i) → (i ≤ t0) → (f = dsR r n i) → (x2 = nI (dsV r n i)) → va_P D vwCl [(h, .inl (cI, 49, .inl f))] H → va_D A [(h, .inl (cI, 49, .inl f))] → va_S A s.heap H locs → lv_has ls 4 [(3, .int x3), (2, .int x2), (0, .ref h), (1, .int p0)] → W p l e ({ frames := 6, cells := 0, slots := 0, locals := 132 }) s m [.ref h, .int p0].toArray below meth c H locs 0 0 Q (F0 m 4 ls []) := by
    intro fu
    induction fu with
    | zero =>
      intro i x3 x2 f ls H locs hfu
      exact absurd hfu (Nat.not_lt_zero _)
    | succ fu ih_1 =>
      intro i x3 x2 f ls H locs hfu hx3 hi hf hx2 hP hD hS hl
      have hI_f : Inv n f := (by rw [hf]; exact hI.idsR _)
      refine lv_iload_n hx hb dX4_daysOn_4 rfl (lv_at hl 0 rfl) ?_
      refine lv_iload_n hx hb dX4_daysOn_5 rfl (lv_at hl 3 rfl) ?_
      refine lv_icmp_ge (tgt := 25) hx hb dX4_daysOn_6 (by decide) (fun c_2 => ?_) (fun c_2 => ?_)
      · skip
        have n_2 : t0 ≤ i := (ni_le (a := t0) (b := i) hp0 hx3 (by omega) (by omega)).mp c_2
        refine lv_iload_n hx hb dX4_daysOn_25 rfl (lv_at hl 1 rfl) ?_
        exact hret 26 _ x2 f _ _ dX4_daysOn_26 (by have e9 : i = t0 := (by omega); subst e9; exact ⟨hx2, hf⟩) hP hD hS
      have n_2 : ¬ t0 ≤ i := fun q => c_2 ((ni_le (a := t0) (b := i) hp0 hx3 (by omega) (by omega)).mpr q)
      refine lv_iload_n hx hb dX4_daysOn_9 rfl (lv_at hl 1 rfl) ?_
      refine lv_aload_n hx hb dX4_daysOn_10 rfl (lv_at hl 2 rfl) ?_
      refine xw_Si (As := [.ref h]) (rest := [.int x2]) (Wn := fun u => [(h, .inl (cI, 49, .inl u))]) (Wr := []) ⟨hx, hb, hml, hown, hts⟩ (kX4_day l D cI H.size h f n hI_f) (va_cwS 1 hts gX4_daysOn_X4_day rfl rfl rfl hs_X4_day ⟨Nat.le_of_ble_eq_true rfl, Nat.le_of_ble_eq_true rfl⟩) hK hP hD hS hA [0] [] [0] rfl rfl (by decide) (by decide) (by decide) (by decide) (fun u => rfl) rfl hl.1 rfl (Nat.le_of_ble_eq_true rfl) dX4_daysOn_11 ⟨Nat.zero_le _, Nat.zero_le _⟩ (fun r_3 u_3 H locs hw_3 hP hD hS => ?_)
      obtain ⟨hr_3, hu_3⟩ := hw_3
      have hI_u_3 : Inv n u_3 := (by rw [hu_3]; exact hI_f.idayR)
      refine xc_Si (As := [.int r_3]) (rest := [.int x2]) ⟨hx, hb, hml, hown, hts⟩ (kX4_bits l D cI r_3) (va_cwS 1 hts gX4_daysOn_X4_bits rfl rfl rfl hs_X4_bits ⟨Nat.le_of_ble_eq_true rfl, Nat.le_of_ble_eq_true rfl⟩) hK hP [] rfl rfl hl.1 rfl (Nat.le_of_ble_eq_true rfl) dX4_daysOn_14 ⟨Nat.zero_le _, Nat.zero_le _⟩ (fun r_4 hr_4 => ?_)
      refine lv_iadd hx hb dX4_daysOn_17 ?_
      refine lv_topi (fun x_5 ex_5 => ?_)
      refine lv_istore_n (lv' := [(2, .int x_5), (3, .int x3), (0, .ref h), (1, .int p0)]) hx hb dX4_daysOn_18 rfl hl (by decide) rfl (fun ls hl => ?_)
      obtain ⟨x_6, ex_6⟩ : ∃ z : Int32, z = x3 + 1 := ⟨_, rfl⟩
      refine lv_iinc (v := x_6) (lv' := [(3, .int x_6), (2, .int x_5), (0, .ref h), (1, .int p0)]) hx hb dX4_daysOn_19 hl (k := 1) rfl (by rw [ex_6]; rfl) (by decide) rfl (fun ls hl => ?_)
      refine lv_goto (tgt := 4) hx hb dX4_daysOn_22 (by decide) ?_
      exact ih_1 (i + 1) x_6 x_5 u_3 _ _ _ (by omega) (ni_add (a := i) (b := 1) ex_6 hx3 (rfl : (1 : Int32) = nI 1)) (by omega) (by clear ih_1; clear hret hP hK hts hown hx hb hml hl hD hA hS; subst_vars; simp_all [dsR, dsV, nI_add]) (by clear ih_1; clear hret hP hK hts hown hx hb hml hl hD hA hS; subst_vars; simp_all [dsR, dsV, nI_add]) hP hD hS (lv_sub hl [0, 1, 2, 3] rfl)
  exact lp_4_1 ((t0 - 0) + 1) 0 0 0 r _ _ _ (by omega) (rfl : (0 : Int32) = nI 0) (by omega) rfl rfl hP hD hS (lv_sub hl [0, 1, 2, 3] rfl)

set_option maxHeartbeats 4000000 in
set_option maxRecDepth 100000 in
theorem kX4_rains (l : Launch) (D : va_G) (cI : ClassId) (sz : Nat) (h : Nat) (r : RR) (n : Nat) (hI : Inv n r) : Met l yX4_rains wsX4_rains ({ frames := 2, cells := 0, slots := 0, locals := 42 }) (PRW D cI [.ref h] [(h, .inl (cI, 49, .inl r))] sz) (va_Qv (S := RR) (fun u => u = rnN r n) (BRW D [(h, .inl (cI, 49, .inl r))] sz (fun u => [(h, .inl (cI, 49, .inl u))])) (va_A [(h, .inl (cI, 49, .inl r))] sz)) 0 0 (va_A [(h, .inl (cI, 49, .inl r))] sz) := by
  refine st_rwv (cc := cX4_rains) (maxL := 2) (by decide) rfl (Nat.le_of_ble_eq_true rfl) ?_
  intro p e s m below meth c Q ls A hx hb hml hts hown hP hK hD hA hS hl hret
  replace hown : s.vm.findClass RX4 = some m.cls := hown
  replace hl : lv_has ls 2 [(0, .ref h)] := hl
  obtain ⟨H, hH⟩ : ∃ z, z = s.heap := ⟨_, rfl⟩
  obtain ⟨locs, hlo⟩ : ∃ z : List Loc, z = [] := ⟨_, rfl⟩
  replace hP : va_P D vwCl [(h, .inl (cI, 49, .inl r))] H := by rw [hH]; exact hP
  replace hS : va_S A s.heap H locs := by rw [hH, hlo]; exact hS
  show W p l e ({ frames := 2, cells := 0, slots := 0, locals := 42 }) s m [.ref h].toArray below meth c s.heap [] 0 0 Q (F0 m 0 ls [])
  rw [← hlo]
  suffices hgo : W p l e ({ frames := 2, cells := 0, slots := 0, locals := 42 }) s m [.ref h].toArray below meth c H locs 0 0 Q (F0 m 0 ls []) by rw [hH] at hgo; exact hgo
  clear hH hlo
  have hn9 := hI.le
  refine lv_iconst (v := 0) hx hb dX4_rains_0 (by decide) ?_
  refine lv_istore_n (lv' := [(1, .int 0), (0, .ref h)]) hx hb dX4_rains_1 rfl hl (by decide) rfl (fun ls hl => ?_)
  have lp_2_1 : ∀ (fu : Nat) (i : Nat) (x1 : Int32) (f : RR) (ls : Array Slot) (H : Heap) (locs : List Loc), n - i < fu → (x1 = nI i) → (i ≤ n) → (f = rnN r i) → va_P D vwCl [(h, .inl (cI, 49, .inl f))] H → va_D A [(h, .inl (cI, 49, .inl f))] → va_S A s.heap H locs → lv_has ls 2 [(1, .int x1), (0, .ref h)] → W p l e ({ frames := 2, cells := 0, slots := 0, locals := 42 }) s m [.ref h].toArray below meth c H locs 0 0 Q (F0 m 2 ls []) := by
    intro fu
    induction fu with
    | zero =>
      intro i x1 f ls H locs hfu
      exact absurd hfu (Nat.not_lt_zero _)
    | succ fu ih_1 =>
      intro i x1 f ls H locs hfu hx1 hi hf hP hD hS hl
      have hI_f : Inv n f := (by rw [hf]; exact hI.irnN _ (by omega))
      refine lv_iload_n hx hb dX4_rains_2 rfl (lv_at hl 0 rfl) ?_
      refine lv_aload_n hx hb dX4_rains_3 rfl (lv_at hl 1 rfl) ?_
      refine lv_iconst (v := 0) hx hb dX4_rains_4 (by decide) ?_
      refine xa_ld hx hb hK hP 0 rfl (j := 0) (rfl : (0 : Int32) = nI 0) (by omega) (by decide) dX4_rains_5 ?_
      refine lv_icmp_ge (tgt := 31) hx hb dX4_rains_6 (by decide) (fun c_2 => ?_) (fun c_2 => ?_)
      · skip
        have n_2 : n ≤ i := (ni_le (a := n) (b := i) hI_f.n0 hx1 (by omega) (by omega)).mp c_2
        exact hret 31 _ f _ _ dX4_rains_31 (by have e9 : i = n := (by omega); subst e9; exact hf) hP hD hS
      have n_2 : ¬ n ≤ i := fun q => c_2 ((ni_le (a := n) (b := i) hI_f.n0 hx1 (by omega) (by omega)).mpr q)
      refine lv_aload_n hx hb dX4_rains_9 rfl (lv_at hl 1 rfl) ?_
      refine lv_iload_n hx hb dX4_rains_10 rfl (lv_at hl 0 rfl) ?_
      refine lv_iconst (v := 4) hx hb dX4_rains_11 (by decide) ?_
      refine xc_Si (As := [.int x1, .int 4]) (rest := [.ref h]) ⟨hx, hb, hml, hown, hts⟩ (kX4_of l D cI x1 4 i 4 hx1 (rfl : (4 : Int32) = nI 4)) (va_cwS 2 hts gX4_rains_X4_of rfl rfl rfl hs_X4_of ⟨Nat.le_of_ble_eq_true rfl, Nat.le_of_ble_eq_true rfl⟩) hK hP [] rfl rfl hl.1 rfl (Nat.le_of_ble_eq_true rfl) dX4_rains_12 ⟨Nat.zero_le _, Nat.zero_le _⟩ (fun r_3 hr_3 => ?_)
      refine xa_ld hx hb hK hP 0 rfl (j := (oF i 4)) hr_3 (oF_lt (by omega) (by omega)) (by decide) dX4_rains_15 ?_
      refine lv_iconst (v := 1) hx hb dX4_rains_16 (by decide) ?_
      refine lv_icmp_ne (tgt := 25) hx hb dX4_rains_17 (by decide) (fun c_4 => ?_) (fun c_4 => ?_)
      · skip
        obtain ⟨x_5, ex_5⟩ : ∃ z : Int32, z = x1 + 1 := ⟨_, rfl⟩
        refine lv_iinc (v := x_5) (lv' := [(1, .int x_5), (0, .ref h)]) hx hb dX4_rains_25 hl (k := 0) rfl (by rw [ex_5]; rfl) (by decide) rfl (fun ls hl => ?_)
        refine lv_goto (tgt := 2) hx hb dX4_rains_28 (by decide) ?_
        exact ih_1 (i + 1) x_5 f _ _ _ (by omega) (ni_add (a := i) (b := 1) ex_5 hx1 (rfl : (1 : Int32) = nI 1)) (by omega) (by clear ih_1; clear hret hP hK hts hown hx hb hml hl hD hA hS; subst_vars; simp_all [rnN]) hP hD hS (lv_sub hl [0, 1] rfl)
      refine lv_aload_n hx hb dX4_rains_20 rfl (lv_at hl 1 rfl) ?_
      refine lv_iload_n hx hb dX4_rains_21 rfl (lv_at hl 0 rfl) ?_
      refine xw_Sv (As := [.ref h, .int x1]) (rest := []) (Wn := fun u => [(h, .inl (cI, 49, .inl u))]) (Wr := []) ⟨hx, hb, hml, hown, hts⟩ (kX4_wearsIn l D cI H.size h f n hI_f x1 i hx1 (by omega)) (va_cwS 2 hts gX4_rains_X4_wearsIn rfl rfl rfl hs_X4_wearsIn ⟨Nat.le_of_ble_eq_true rfl, Nat.le_of_ble_eq_true rfl⟩) hK hP hD hS hA [0] [] [0] rfl rfl (by decide) (by decide) (by decide) (by decide) (fun u => rfl) rfl hl.1 rfl (Nat.le_of_ble_eq_true rfl) dX4_rains_22 ⟨Nat.zero_le _, Nat.zero_le _⟩ (fun u_6 H locs hw_6 hP hD hS => ?_)
      have hI_u_6 : Inv n u_6 := (by rw [hw_6]; exact hI_f.iwearW (by omega))
      obtain ⟨x_7, ex_7⟩ : ∃ z : Int32, z = x1 + 1 := ⟨_, rfl⟩
      refine lv_iinc (v := x_7) (lv' := [(1, .int x_7), (0, .ref h)]) hx hb dX4_rains_25 hl (k := 0) rfl (by rw [ex_7]; rfl) (by decide) rfl (fun ls hl => ?_)
      refine lv_goto (tgt := 2) hx hb dX4_rains_28 (by decide) ?_
      exact ih_1 (i + 1) x_7 u_6 _ _ _ (by omega) (ni_add (a := i) (b := 1) ex_7 hx1 (rfl : (1 : Int32) = nI 1)) (by omega) (by clear ih_1; clear hret hP hK hts hown hx hb hml hl hD hA hS; subst_vars; simp_all [rnN]) hP hD hS (lv_sub hl [0, 1] rfl)
  exact lp_2_1 ((n - 0) + 1) 0 0 r _ _ _ (by omega) (rfl : (0 : Int32) = nI 0) (by omega) rfl hP hD hS (lv_sub hl [0, 1] rfl)

set_option maxHeartbeats 4000000 in
set_option maxRecDepth 100000 in
theorem kX4_adds (l : Launch) (D : va_G) (cI : ClassId) (sz : Nat) (h : Nat) (r : RR) (n : Nat) (hI : Inv n r) (p0 p1 p2 : Int32) : Met l yX4_adds wsX4_adds ({ frames := 1, cells := 0, slots := 0, locals := 21 }) (PRW D cI [.ref h, .int p0, .int p1, .int p2] [(h, .inl (cI, 49, .inl r))] sz) (va_Qi (S := RR) (fun v u => (n = 9 ∧ v = 0 ∧ u = r) ∨ (n < 9 ∧ v = 1 ∧ u = addR r n p0 p1 p2)) (BRW D [(h, .inl (cI, 49, .inl r))] sz (fun u => [(h, .inl (cI, 49, .inl u))])) (va_A [(h, .inl (cI, 49, .inl r))] sz)) 0 0 (va_A [(h, .inl (cI, 49, .inl r))] sz) := by
  refine st_rwi (cc := cX4_adds) (maxL := 5) (rt := .boolean) (by decide) rfl (Nat.le_of_ble_eq_true rfl) (by rintro v u (⟨_, h, _⟩ | ⟨_, h, _⟩) <;> (subst h; rfl)) ?_
  intro p e s m below meth c Q ls A hx hb hml hts hown hP hK hD hA hS hl hret
  replace hown : s.vm.findClass RX4 = some m.cls := hown
  replace hl : lv_has ls 5 [(0, .ref h), (1, .int p0), (2, .int p1), (3, .int p2)] := hl
  obtain ⟨H, hH⟩ : ∃ z, z = s.heap := ⟨_, rfl⟩
  obtain ⟨locs, hlo⟩ : ∃ z : List Loc, z = [] := ⟨_, rfl⟩
  replace hP : va_P D vwCl [(h, .inl (cI, 49, .inl r))] H := by rw [hH]; exact hP
  replace hS : va_S A s.heap H locs := by rw [hH, hlo]; exact hS
  show W p l e ({ frames := 1, cells := 0, slots := 0, locals := 21 }) s m [.ref h, .int p0, .int p1, .int p2].toArray below meth c s.heap [] 0 0 Q (F0 m 0 ls [])
  rw [← hlo]
  suffices hgo : W p l e ({ frames := 1, cells := 0, slots := 0, locals := 21 }) s m [.ref h, .int p0, .int p1, .int p2].toArray below meth c H locs 0 0 Q (F0 m 0 ls []) by rw [hH] at hgo; exact hgo
  clear hH hlo
  have hn9 := hI.le
  refine lv_aload_n hx hb dX4_adds_0 rfl (lv_at hl 0 rfl) ?_
  refine lv_iconst (v := 0) hx hb dX4_adds_1 (by decide) ?_
  refine xa_ld hx hb hK hP 0 rfl (j := 0) (rfl : (0 : Int32) = nI 0) (by omega) (by decide) dX4_adds_2 ?_
  refine lv_bipush (v := 9) hx hb dX4_adds_3 (by decide) ?_
  refine lv_icmp_ne (tgt := 10) hx hb dX4_adds_5 (by decide) (fun c_1 => ?_) (fun c_1 => ?_)
  · skip
    have n_1 : ¬ n = 9 := fun q => c_1 ((ni_eq (a := n) (b := 9) hI.n0 (rfl : (9 : Int32) = nI 9) (by omega) (by decide)).mpr q)
    refine lv_aload_n hx hb dX4_adds_10 rfl (lv_at hl 0 rfl) ?_
    refine lv_iconst (v := 0) hx hb dX4_adds_11 (by decide) ?_
    refine xa_ld hx hb hK hP 0 rfl (j := 0) (rfl : (0 : Int32) = nI 0) (by omega) (by decide) dX4_adds_12 ?_
    refine lv_topi (fun x_2 ex_2 => ?_)
    refine lv_istore (lv' := [(4, .int x_2), (0, .ref h), (1, .int p0), (2, .int p1), (3, .int p2)]) hx hb dX4_adds_13 hl (by decide) rfl (fun ls hl => ?_)
    refine lv_aload_n hx hb dX4_adds_15 rfl (lv_at hl 1 rfl) ?_
    refine lv_iload hx hb dX4_adds_16 (lv_at hl 0 rfl) ?_
    refine lv_iconst (v := 0) hx hb dX4_adds_18 (by decide) ?_
    refine xc_Si (As := [.int x_2, .int 0]) (rest := [.ref h]) ⟨hx, hb, hml, hown, hts⟩ (kX4_of l D cI x_2 0 n 0 (ex_2.trans hI.n0) (rfl : (0 : Int32) = nI 0)) (va_cwS 2 hts gX4_adds_X4_of rfl rfl rfl hs_X4_of ⟨Nat.le_of_ble_eq_true rfl, Nat.le_of_ble_eq_true rfl⟩) hK hP [] rfl rfl hl.1 rfl (Nat.le_of_ble_eq_true rfl) dX4_adds_19 ⟨Nat.zero_le _, Nat.zero_le _⟩ (fun r_3 hr_3 => ?_)
    refine lv_iload_n hx hb dX4_adds_22 rfl (lv_at hl 2 rfl) ?_
    refine xa_st hx hb hK hP hD hS 0 rfl (j := (oF n 0)) hr_3 (by unfold oF; omega) (by decide) dX4_adds_23 (fun H locs hP hD hS => ?_)
    obtain ⟨f_4, ef_4⟩ : ∃ z : Nat → Int32, z = upd r (oF n 0) p0 := ⟨_, rfl⟩
    replace hP : va_P D vwCl [(h, .inl (cI, 49, .inl (upd r (oF n 0) p0)))] H := hP
    replace hD : va_D A [(h, .inl (cI, 49, .inl (upd r (oF n 0) p0)))] := hD
    rw [← ef_4] at hP hD
    have hz_f_4 : f_4 0 = nI n := by rw [ef_4, un_o (by omega)]; exact hI.n0
    refine lv_aload_n hx hb dX4_adds_24 rfl (lv_at hl 1 rfl) ?_
    refine lv_iload hx hb dX4_adds_25 (lv_at hl 0 rfl) ?_
    refine lv_iconst (v := 1) hx hb dX4_adds_27 (by decide) ?_
    refine xc_Si (As := [.int x_2, .int 1]) (rest := [.ref h]) ⟨hx, hb, hml, hown, hts⟩ (kX4_of l D cI x_2 1 n 1 (ex_2.trans hI.n0) (rfl : (1 : Int32) = nI 1)) (va_cwS 2 hts gX4_adds_X4_of rfl rfl rfl hs_X4_of ⟨Nat.le_of_ble_eq_true rfl, Nat.le_of_ble_eq_true rfl⟩) hK hP [] rfl rfl hl.1 rfl (Nat.le_of_ble_eq_true rfl) dX4_adds_28 ⟨Nat.zero_le _, Nat.zero_le _⟩ (fun r_5 hr_5 => ?_)
    refine lv_iload_n hx hb dX4_adds_31 rfl (lv_at hl 3 rfl) ?_
    refine xa_st hx hb hK hP hD hS 0 rfl (j := (oF n 1)) hr_5 (by unfold oF; omega) (by decide) dX4_adds_32 (fun H locs hP hD hS => ?_)
    obtain ⟨f_6, ef_6⟩ : ∃ z : Nat → Int32, z = upd f_4 (oF n 1) p1 := ⟨_, rfl⟩
    replace hP : va_P D vwCl [(h, .inl (cI, 49, .inl (upd f_4 (oF n 1) p1)))] H := hP
    replace hD : va_D A [(h, .inl (cI, 49, .inl (upd f_4 (oF n 1) p1)))] := hD
    rw [← ef_6] at hP hD
    have hz_f_6 : f_6 0 = nI n := by rw [ef_6, un_o (by omega)]; exact hz_f_4
    refine lv_aload_n hx hb dX4_adds_33 rfl (lv_at hl 1 rfl) ?_
    refine lv_iload hx hb dX4_adds_34 (lv_at hl 0 rfl) ?_
    refine lv_iconst (v := 2) hx hb dX4_adds_36 (by decide) ?_
    refine xc_Si (As := [.int x_2, .int 2]) (rest := [.ref h]) ⟨hx, hb, hml, hown, hts⟩ (kX4_of l D cI x_2 2 n 2 (ex_2.trans hI.n0) (rfl : (2 : Int32) = nI 2)) (va_cwS 2 hts gX4_adds_X4_of rfl rfl rfl hs_X4_of ⟨Nat.le_of_ble_eq_true rfl, Nat.le_of_ble_eq_true rfl⟩) hK hP [] rfl rfl hl.1 rfl (Nat.le_of_ble_eq_true rfl) dX4_adds_37 ⟨Nat.zero_le _, Nat.zero_le _⟩ (fun r_7 hr_7 => ?_)
    refine lv_iload_n hx hb dX4_adds_40 rfl (lv_at hl 4 rfl) ?_
    refine xa_st hx hb hK hP hD hS 0 rfl (j := (oF n 2)) hr_7 (by unfold oF; omega) (by decide) dX4_adds_41 (fun H locs hP hD hS => ?_)
    obtain ⟨f_8, ef_8⟩ : ∃ z : Nat → Int32, z = upd f_6 (oF n 2) p2 := ⟨_, rfl⟩
    replace hP : va_P D vwCl [(h, .inl (cI, 49, .inl (upd f_6 (oF n 2) p2)))] H := hP
    replace hD : va_D A [(h, .inl (cI, 49, .inl (upd f_6 (oF n 2) p2)))] := hD
    rw [← ef_8] at hP hD
    have hz_f_8 : f_8 0 = nI n := by rw [ef_8, un_o (by omega)]; exact hz_f_6
    refine lv_aload_n hx hb dX4_adds_42 rfl (lv_at hl 1 rfl) ?_
    refine lv_iload hx hb dX4_adds_43 (lv_at hl 0 rfl) ?_
    refine lv_iconst (v := 3) hx hb dX4_adds_45 (by decide) ?_
    refine xc_Si (As := [.int x_2, .int 3]) (rest := [.ref h]) ⟨hx, hb, hml, hown, hts⟩ (kX4_of l D cI x_2 3 n 3 (ex_2.trans hI.n0) (rfl : (3 : Int32) = nI 3)) (va_cwS 2 hts gX4_adds_X4_of rfl rfl rfl hs_X4_of ⟨Nat.le_of_ble_eq_true rfl, Nat.le_of_ble_eq_true rfl⟩) hK hP [] rfl rfl hl.1 rfl (Nat.le_of_ble_eq_true rfl) dX4_adds_46 ⟨Nat.zero_le _, Nat.zero_le _⟩ (fun r_9 hr_9 => ?_)
    refine lv_iconst (v := 0) hx hb dX4_adds_49 (by decide) ?_
    refine xa_st hx hb hK hP hD hS 0 rfl (j := (oF n 3)) hr_9 (by unfold oF; omega) (by decide) dX4_adds_50 (fun H locs hP hD hS => ?_)
    obtain ⟨f_10, ef_10⟩ : ∃ z : Nat → Int32, z = upd f_8 (oF n 3) 0 := ⟨_, rfl⟩
    replace hP : va_P D vwCl [(h, .inl (cI, 49, .inl (upd f_8 (oF n 3) 0)))] H := hP
    replace hD : va_D A [(h, .inl (cI, 49, .inl (upd f_8 (oF n 3) 0)))] := hD
    rw [← ef_10] at hP hD
    have hz_f_10 : f_10 0 = nI n := by rw [ef_10, un_o (by omega)]; exact hz_f_8
    refine lv_aload_n hx hb dX4_adds_51 rfl (lv_at hl 1 rfl) ?_
    refine lv_iload hx hb dX4_adds_52 (lv_at hl 0 rfl) ?_
    refine lv_iconst (v := 4) hx hb dX4_adds_54 (by decide) ?_
    refine xc_Si (As := [.int x_2, .int 4]) (rest := [.ref h]) ⟨hx, hb, hml, hown, hts⟩ (kX4_of l D cI x_2 4 n 4 (ex_2.trans hI.n0) (rfl : (4 : Int32) = nI 4)) (va_cwS 2 hts gX4_adds_X4_of rfl rfl rfl hs_X4_of ⟨Nat.le_of_ble_eq_true rfl, Nat.le_of_ble_eq_true rfl⟩) hK hP [] rfl rfl hl.1 rfl (Nat.le_of_ble_eq_true rfl) dX4_adds_55 ⟨Nat.zero_le _, Nat.zero_le _⟩ (fun r_11 hr_11 => ?_)
    refine lv_iconst (v := 0) hx hb dX4_adds_58 (by decide) ?_
    refine xa_st hx hb hK hP hD hS 0 rfl (j := (oF n 4)) hr_11 (by unfold oF; omega) (by decide) dX4_adds_59 (fun H locs hP hD hS => ?_)
    obtain ⟨f_12, ef_12⟩ : ∃ z : Nat → Int32, z = upd f_10 (oF n 4) 0 := ⟨_, rfl⟩
    replace hP : va_P D vwCl [(h, .inl (cI, 49, .inl (upd f_10 (oF n 4) 0)))] H := hP
    replace hD : va_D A [(h, .inl (cI, 49, .inl (upd f_10 (oF n 4) 0)))] := hD
    rw [← ef_12] at hP hD
    have hz_f_12 : f_12 0 = nI n := by rw [ef_12, un_o (by omega)]; exact hz_f_10
    refine lv_aload_n hx hb dX4_adds_60 rfl (lv_at hl 1 rfl) ?_
    refine lv_iconst (v := 0) hx hb dX4_adds_61 (by decide) ?_
    refine lv_dup2_11 hx hb dX4_adds_62 rfl rfl ?_
    refine xa_ld hx hb hK hP 0 rfl (j := 0) (rfl : (0 : Int32) = nI 0) (by omega) (by decide) dX4_adds_63 ?_
    refine lv_iconst (v := 1) hx hb dX4_adds_64 (by decide) ?_
    refine lv_iadd hx hb dX4_adds_65 ?_
    refine xa_st hx hb hK hP hD hS 0 rfl (j := 0) (rfl : (0 : Int32) = nI 0) (by omega) (by decide) dX4_adds_66 (fun H locs hP hD hS => ?_)
    obtain ⟨f_13, ef_13⟩ : ∃ z : Nat → Int32, z = upd f_12 0 ((f_12 0) + 1) := ⟨_, rfl⟩
    replace hP : va_P D vwCl [(h, .inl (cI, 49, .inl (upd f_12 0 ((f_12 0) + 1))))] H := hP
    replace hD : va_D A [(h, .inl (cI, 49, .inl (upd f_12 0 ((f_12 0) + 1))))] := hD
    rw [← ef_13] at hP hD
    refine lv_iconst (v := 1) hx hb dX4_adds_67 (by decide) ?_
    exact hret 68 _ 1 f_13 _ _ dX4_adds_68 (Or.inr ⟨by omega, rfl, by clear hret hP hK hts hown hx hb hml hl hD hA hS; subst_vars; rfl⟩) hP hD hS
  have n_1 : n = 9 := (ni_eq (a := n) (b := 9) hI.n0 (rfl : (9 : Int32) = nI 9) (by omega) (by decide)).mp c_1
  refine lv_iconst (v := 0) hx hb dX4_adds_8 (by decide) ?_
  exact hret 9 _ 0 r _ _ dX4_adds_9 (Or.inl ⟨by omega, rfl, rfl⟩) hP hD hS

set_option maxHeartbeats 4000000 in
set_option maxRecDepth 100000 in
theorem kX4_copies (l : Launch) (D : va_G) (cI : ClassId) (sz : Nat) (ha hb2 : Nat) (f g : RR) : Met l yX4_copies wsX4_copies ({ frames := 0, cells := 0, slots := 0, locals := 0 }) (PRW D cI [.ref ha, .ref hb2] [(ha, .inl (cI, 49, .inl f)), (hb2, .inl (cI, 49, .inl g))] sz) (va_Qv (S := Unit) (fun _ => True) (BRW D [(ha, .inl (cI, 49, .inl f)), (hb2, .inl (cI, 49, .inl g))] sz (fun u => [(ha, .inl (cI, 49, .inl f)), (hb2, .inl (cI, 49, .inl f))])) (va_A [(ha, .inl (cI, 49, .inl f)), (hb2, .inl (cI, 49, .inl g))] sz)) 0 0 (va_A [(ha, .inl (cI, 49, .inl f)), (hb2, .inl (cI, 49, .inl g))] sz) := by
  refine st_rwv (cc := cX4_copies) (maxL := 3) (by decide) rfl (Nat.le_of_ble_eq_true rfl) ?_
  intro p e s m below meth c Q ls A hx hb hml hts hown hP hK hD hA hS hl hret
  replace hown : s.vm.findClass RX4 = some m.cls := hown
  replace hl : lv_has ls 3 [(0, .ref ha), (1, .ref hb2)] := hl
  obtain ⟨H, hH⟩ : ∃ z, z = s.heap := ⟨_, rfl⟩
  obtain ⟨locs, hlo⟩ : ∃ z : List Loc, z = [] := ⟨_, rfl⟩
  replace hP : va_P D vwCl [(ha, .inl (cI, 49, .inl f)), (hb2, .inl (cI, 49, .inl g))] H := by rw [hH]; exact hP
  replace hS : va_S A s.heap H locs := by rw [hH, hlo]; exact hS
  show W p l e ({ frames := 0, cells := 0, slots := 0, locals := 0 }) s m [.ref ha, .ref hb2].toArray below meth c s.heap [] 0 0 Q (F0 m 0 ls [])
  rw [← hlo]
  suffices hgo : W p l e ({ frames := 0, cells := 0, slots := 0, locals := 0 }) s m [.ref ha, .ref hb2].toArray below meth c H locs 0 0 Q (F0 m 0 ls []) by rw [hH] at hgo; exact hgo
  clear hH hlo
  refine lv_iconst (v := 0) hx hb dX4_copies_0 (by decide) ?_
  refine lv_istore_n (lv' := [(2, .int 0), (0, .ref ha), (1, .ref hb2)]) hx hb dX4_copies_1 rfl hl (by decide) rfl (fun ls hl => ?_)
  have lp_2_1 : ∀ (fu : Nat) (i : Nat) (x2 : Int32) (g2 : RR) (ls : Array Slot) (H : Heap) (locs : List Loc), 49 - i < fu → (x2 = nI i) → (i ≤ 49) → (∀ j, g2 j = if j < i then f j else g j) → va_P D vwCl [(ha, .inl (cI, 49, .inl f)), (hb2, .inl (cI, 49, .inl g2))] H → va_D A [(ha, .inl (cI, 49, .inl f)), (hb2, .inl (cI, 49, .inl g2))] → va_S A s.heap H locs → lv_has ls 3 [(2, .int x2), (0, .ref ha), (1, .ref hb2)] → W p l e ({ frames := 0, cells := 0, slots := 0, locals := 0 }) s m [.ref ha, .ref hb2].toArray below meth c H locs 0 0 Q (F0 m 2 ls []) := by
    intro fu
    induction fu with
    | zero =>
      intro i x2 g2 ls H locs hfu
      exact absurd hfu (Nat.not_lt_zero _)
    | succ fu ih_1 =>
      intro i x2 g2 ls H locs hfu hx2 hi hg hP hD hS hl
      refine lv_iload_n hx hb dX4_copies_2 rfl (lv_at hl 0 rfl) ?_
      refine lv_bipush (v := 49) hx hb dX4_copies_3 (by decide) ?_
      refine lv_icmp_ge (tgt := 20) hx hb dX4_copies_5 (by decide) (fun c_2 => ?_) (fun c_2 => ?_)
      · skip
        have n_2 : 49 ≤ i := (ni_le (a := 49) (b := i) (rfl : (49 : Int32) = nI 49) hx2 (by decide) (by omega)).mp c_2
        replace hP := xa_same hP 1 rfl f (fun j hj => by rw [hg j, if_pos (by omega)])
        replace hD := va_D.set (e := .inl (cI, 49, .inl f)) hD (p := 1) rfl
        have hP : va_P D vwCl [(ha, .inl (cI, 49, .inl f)), (hb2, .inl (cI, 49, .inl f))] H := hP
        have hD : va_D A [(ha, .inl (cI, 49, .inl f)), (hb2, .inl (cI, 49, .inl f))] := hD
        exact hret 20 _ () _ _ dX4_copies_20 trivial hP hD hS
      have n_2 : ¬ 49 ≤ i := fun q => c_2 ((ni_le (a := 49) (b := i) (rfl : (49 : Int32) = nI 49) hx2 (by decide) (by omega)).mpr q)
      refine lv_aload_n hx hb dX4_copies_8 rfl (lv_at hl 2 rfl) ?_
      refine lv_iload_n hx hb dX4_copies_9 rfl (lv_at hl 0 rfl) ?_
      refine lv_aload_n hx hb dX4_copies_10 rfl (lv_at hl 1 rfl) ?_
      refine lv_iload_n hx hb dX4_copies_11 rfl (lv_at hl 0 rfl) ?_
      refine xa_ld hx hb hK hP 0 rfl (j := i) hx2 (by omega) (by decide) dX4_copies_12 ?_
      refine xa_st hx hb hK hP hD hS 1 rfl (j := i) hx2 (by omega) (by decide) dX4_copies_13 (fun H locs hP hD hS => ?_)
      obtain ⟨f_3, ef_3⟩ : ∃ z : Nat → Int32, z = upd g2 i (f i) := ⟨_, rfl⟩
      replace hP : va_P D vwCl [(ha, .inl (cI, 49, .inl f)), (hb2, .inl (cI, 49, .inl (upd g2 i (f i))))] H := hP
      replace hD : va_D A [(ha, .inl (cI, 49, .inl f)), (hb2, .inl (cI, 49, .inl (upd g2 i (f i))))] := hD
      rw [← ef_3] at hP hD
      obtain ⟨x_4, ex_4⟩ : ∃ z : Int32, z = x2 + 1 := ⟨_, rfl⟩
      refine lv_iinc (v := x_4) (lv' := [(2, .int x_4), (0, .ref ha), (1, .ref hb2)]) hx hb dX4_copies_14 hl (k := 0) rfl (by rw [ex_4]; rfl) (by decide) rfl (fun ls hl => ?_)
      refine lv_goto (tgt := 2) hx hb dX4_copies_17 (by decide) ?_
      exact ih_1 (i + 1) x_4 f_3 _ _ _ (by omega) (ni_add (a := i) (b := 1) ex_4 hx2 (rfl : (1 : Int32) = nI 1)) (by omega) (by intro j; clear ih_1; clear hret hP hK hts hown hx hb hml hl hD hA hS; subst_vars; exact cp_step hg j) hP hD hS (lv_sub hl [0, 1, 2] rfl)
  exact lp_2_1 ((49 - 0) + 1) 0 0 g _ _ _ (by omega) (rfl : (0 : Int32) = nI 0) (by omega) (fun j => by simp) hP hD hS (lv_sub hl [0, 1, 2] rfl)


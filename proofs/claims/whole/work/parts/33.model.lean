theorem hs_X4_isDone : yX4_isDone.cls ≠ "java/lang/invoke/MethodHandle" ∧ yX4_isDone.cls ≠ "java/lang/invoke/VarHandle" ∧ (parseMethodDescriptor yX4_isDone.desc).map (fun d => d.parameters.length) = some 1 := by decide +kernel
theorem hv_X4_isDone : yX4_isDone.cls = RX4 ∧ yX4_isDone.cls ≠ "java/lang/invoke/MethodHandle" ∧ yX4_isDone.cls ≠ "java/lang/invoke/VarHandle" ∧ (parseMethodDescriptor yX4_isDone.desc).map (fun d => d.parameters.length) = some 1 := ⟨rfl, hs_X4_isDone⟩
theorem hs_X4_close : yX4_close.cls ≠ "java/lang/invoke/MethodHandle" ∧ yX4_close.cls ≠ "java/lang/invoke/VarHandle" ∧ (parseMethodDescriptor yX4_close.desc).map (fun d => d.parameters.length) = some 0 := by decide +kernel
theorem hv_X4_close : yX4_close.cls = RX4 ∧ yX4_close.cls ≠ "java/lang/invoke/MethodHandle" ∧ yX4_close.cls ≠ "java/lang/invoke/VarHandle" ∧ (parseMethodDescriptor yX4_close.desc).map (fun d => d.parameters.length) = some 0 := ⟨rfl, hs_X4_close⟩
set_option maxHeartbeats 4000000 in
set_option maxRecDepth 100000 in
theorem kX4_isDone (l : Launch) (D : va_G) (cI : ClassId) (sz : Nat) (p0 : Int32) (a0 a1 a2 a3 a4 a5 a6 a7 a8 : Nat) (gg : GG) (mm : MS) (n : Nat) (hI : Inv n gg.r) (hn0 : p0 = 115 → ∃ k, k < 6 ∧ mm.nb 0 = nI k) (hn1 : p0 = 115 ∨ p0 = 119 → ∃ k, k < 10 ∧ mm.nb 1 = nI k) : Met l yX4_isDone wsX4_isDone ({ frames := 7, cells := 0, slots := 0, locals := 155 }) (PRW D cI [.ref a0, .int p0] [(a0, .inr (3, [.ref a1, .ref a2, .ref a3, .ref a4, .int gg.hs, .ref a5, .ref a6, .ref a7, .int (nI gg.L), .int (nI gg.M), .int mm.pl, .ref a8, .int mm.sd])), (a1, .inl (cI, 49, .inl gg.r)), (a2, .inl (cI, 49, .inl mm.m)), (a3, .inl (cI, 49, .inl gg.im)), (a4, .inl (cI, 49, .inl mm.ws)), (a5, .inl (cI, 96, .inl gg.lt)), (a6, .inl (cI, 16, .inl gg.rw)), (a7, .inl (cI, 7, .inl gg.rf)), (a8, .inl (cI, 3, .inl mm.nb))] sz) (va_Qi (S := RR) (fun v u => v = (if (dnF n gg.r p0 (mm.nb 0) (mm.nb 1) (mm.nb 2)).1 = true then 1 else 0) ∧ u = (dnF n gg.r p0 (mm.nb 0) (mm.nb 1) (mm.nb 2)).2.2) (BRW D [(a0, .inr (3, [.ref a1, .ref a2, .ref a3, .ref a4, .int gg.hs, .ref a5, .ref a6, .ref a7, .int (nI gg.L), .int (nI gg.M), .int mm.pl, .ref a8, .int mm.sd])), (a1, .inl (cI, 49, .inl gg.r)), (a2, .inl (cI, 49, .inl mm.m)), (a3, .inl (cI, 49, .inl gg.im)), (a4, .inl (cI, 49, .inl mm.ws)), (a5, .inl (cI, 96, .inl gg.lt)), (a6, .inl (cI, 16, .inl gg.rw)), (a7, .inl (cI, 7, .inl gg.rf)), (a8, .inl (cI, 3, .inl mm.nb))] sz (fun u => [(a0, .inr (3, [.ref a1, .ref a2, .ref a3, .ref a4, .int gg.hs, .ref a5, .ref a6, .ref a7, .int (nI gg.L), .int (nI gg.M), .int mm.pl, .ref a8, .int mm.sd])), (a1, .inl (cI, 49, .inl u)), (a2, .inl (cI, 49, .inl mm.m)), (a3, .inl (cI, 49, .inl gg.im)), (a4, .inl (cI, 49, .inl mm.ws)), (a5, .inl (cI, 96, .inl gg.lt)), (a6, .inl (cI, 16, .inl gg.rw)), (a7, .inl (cI, 7, .inl gg.rf)), (a8, .inl (cI, 3, .inl mm.nb))])) (va_A [(a0, .inr (3, [.ref a1, .ref a2, .ref a3, .ref a4, .int gg.hs, .ref a5, .ref a6, .ref a7, .int (nI gg.L), .int (nI gg.M), .int mm.pl, .ref a8, .int mm.sd])), (a1, .inl (cI, 49, .inl gg.r)), (a2, .inl (cI, 49, .inl mm.m)), (a3, .inl (cI, 49, .inl gg.im)), (a4, .inl (cI, 49, .inl mm.ws)), (a5, .inl (cI, 96, .inl gg.lt)), (a6, .inl (cI, 16, .inl gg.rw)), (a7, .inl (cI, 7, .inl gg.rf)), (a8, .inl (cI, 3, .inl mm.nb))] sz)) 0 0 (va_A [(a0, .inr (3, [.ref a1, .ref a2, .ref a3, .ref a4, .int gg.hs, .ref a5, .ref a6, .ref a7, .int (nI gg.L), .int (nI gg.M), .int mm.pl, .ref a8, .int mm.sd])), (a1, .inl (cI, 49, .inl gg.r)), (a2, .inl (cI, 49, .inl mm.m)), (a3, .inl (cI, 49, .inl gg.im)), (a4, .inl (cI, 49, .inl mm.ws)), (a5, .inl (cI, 96, .inl gg.lt)), (a6, .inl (cI, 16, .inl gg.rw)), (a7, .inl (cI, 7, .inl gg.rf)), (a8, .inl (cI, 3, .inl mm.nb))] sz) := by
  refine st_rwi (cc := cX4_isDone) (maxL := 5) (rt := .boolean) (by decide) rfl (Nat.le_of_ble_eq_true rfl) (by rintro v u ⟨h, _⟩; subst h; split <;> rfl) ?_
  intro p e s m below meth c Q ls A hx hb hml hts hown hP hK hD hA hS hl hret
  replace hown : s.vm.findClass RX4 = some m.cls := hown
  replace hl : lv_has ls 5 [(0, .ref a0), (1, .int p0)] := hl
  obtain ⟨H, hH⟩ : ∃ z, z = s.heap := ⟨_, rfl⟩
  obtain ⟨locs, hlo⟩ : ∃ z : List Loc, z = [] := ⟨_, rfl⟩
  replace hP : va_P D vwCl [(a0, .inr (3, [.ref a1, .ref a2, .ref a3, .ref a4, .int gg.hs, .ref a5, .ref a6, .ref a7, .int (nI gg.L), .int (nI gg.M), .int mm.pl, .ref a8, .int mm.sd])), (a1, .inl (cI, 49, .inl gg.r)), (a2, .inl (cI, 49, .inl mm.m)), (a3, .inl (cI, 49, .inl gg.im)), (a4, .inl (cI, 49, .inl mm.ws)), (a5, .inl (cI, 96, .inl gg.lt)), (a6, .inl (cI, 16, .inl gg.rw)), (a7, .inl (cI, 7, .inl gg.rf)), (a8, .inl (cI, 3, .inl mm.nb))] H := by rw [hH]; exact hP
  replace hS : va_S A s.heap H locs := by rw [hH, hlo]; exact hS
  show W p l e ({ frames := 7, cells := 0, slots := 0, locals := 155 }) s m [.ref a0, .int p0].toArray below meth c s.heap [] 0 0 Q (F0 m 0 ls [])
  rw [← hlo]
  suffices hgo : W p l e ({ frames := 7, cells := 0, slots := 0, locals := 155 }) s m [.ref a0, .int p0].toArray below meth c H locs 0 0 Q (F0 m 0 ls []) by rw [hH] at hgo; exact hgo
  clear hH hlo
  have hi_X4 : ∀ w ∈ wsX40, w ∈ wsX4_isDone := fun w h => List.mem_cons_of_mem _ (List.mem_append_right _ (h))
  have hk_31 := hts (.fieldLink RX4 31 "NestsOfTalkModel" "numbers" "[I") (List.mem_of_getElem? (i := 1) rfl)
  have hk_9 := hts (.fieldLink RX4 9 "NestsOfTalkModel" "s" "[I") (List.mem_of_getElem? (i := 2) rfl)
  have hn9 := hI.le
  refine lv_aload_n hx hb dX4_isDone_0 rfl (lv_at hl 0 rfl) ?_
  refine va_get (D := D) (ci := 3) (v := .ref a8) (C := RX4) (T := TX4) (N := 13) hx hb hts hi_X4 hown hK.1 hP 0 rfl rfl 11 (by decide) hk_31 (fun _ h9 => h9) rfl dX4_isDone_1 ?_
  refine lv_iconst (v := 0) hx hb dX4_isDone_4 (by decide) ?_
  refine xa_ld hx hb hK hP 8 rfl (j := 0) (rfl : (0 : Int32) = nI 0) (by omega) (by decide) dX4_isDone_5 ?_
  refine lv_topi (fun x_1 ex_1 => ?_)
  refine lv_istore_n (lv' := [(2, .int x_1), (0, .ref a0), (1, .int p0)]) hx hb dX4_isDone_6 rfl hl (by decide) rfl (fun ls hl => ?_)
  refine lv_aload_n hx hb dX4_isDone_7 rfl (lv_at hl 1 rfl) ?_
  refine va_get (D := D) (ci := 3) (v := .ref a8) (C := RX4) (T := TX4) (N := 13) hx hb hts hi_X4 hown hK.1 hP 0 rfl rfl 11 (by decide) hk_31 (fun _ h9 => h9) rfl dX4_isDone_8 ?_
  refine lv_iconst (v := 1) hx hb dX4_isDone_11 (by decide) ?_
  refine xa_ld hx hb hK hP 8 rfl (j := 1) (rfl : (1 : Int32) = nI 1) (by omega) (by decide) dX4_isDone_12 ?_
  refine lv_topi (fun x_2 ex_2 => ?_)
  refine lv_istore_n (lv' := [(3, .int x_2), (2, .int x_1), (0, .ref a0), (1, .int p0)]) hx hb dX4_isDone_13 rfl hl (by decide) rfl (fun ls hl => ?_)
  refine lv_iconst (v := 0) hx hb dX4_isDone_14 (by decide) ?_
  refine lv_istore (lv' := [(4, .int 0), (3, .int x_2), (2, .int x_1), (0, .ref a0), (1, .int p0)]) hx hb dX4_isDone_15 hl (by decide) rfl (fun ls hl => ?_)
  refine lv_iload_n hx hb dX4_isDone_17 rfl (lv_at hl 4 rfl) ?_
  by_cases c_3 : p0 = 97
  · refine xs_lin (k := 97) (off := 135) (tgt := 153) hx hb dX4_isDone_18 c_3 (by decide) (by decide) (by decide) ?_
    refine lv_aload_n hx hb dX4_isDone_153 rfl (lv_at hl 3 rfl) ?_
    refine lv_iload_n hx hb dX4_isDone_154 rfl (lv_at hl 2 rfl) ?_
    refine xc_Vi (As := [.int x_1]) (rest := []) ⟨hx, hb, hml, hown, hts⟩ (kX4_isSaying l D cI a0 a1 a2 a3 a4 a5 a6 a7 a8 (n, gg.r, gg.m, gg.im, gg.hs, gg.lt, gg.L, gg.rw, gg.M, gg.rf) mm n hI x_1) (cwV 1 hts gX4_isDone_X4_isSaying rfl rfl rfl hv_X4_isSaying ⟨Nat.le_of_ble_eq_true rfl, Nat.le_of_ble_eq_true rfl⟩) hK hP [0, 1] rfl 0 rfl rfl rfl hl.1 rfl (Nat.le_of_ble_eq_true rfl) dX4_isDone_155 ⟨Nat.zero_le _, Nat.zero_le _⟩ (fun r_4 hr_4 => ?_)
    refine lv_if_eq (tgt := 168) hx hb dX4_isDone_158 (by decide) (fun c_5 => ?_) (fun c_5 => ?_)
    · skip
      have hb_5 : sayB n x_1 = false := bool_f hr_4 c_5
      refine lv_iconst (v := 0) hx hb dX4_isDone_168 (by decide) ?_
      exact hret 169 _ 0 gg.r _ _ dX4_isDone_169 (by refine ⟨?_, ?_⟩ <;> first | (simp [dnF, setAb, ← ex_1, ← ex_2, c_3, c_5, hb_5]; done) | (simp [dnF, setAb, ← ex_1, ← ex_2, c_3, c_5, hb_5, isI]; done)) hP hD hS
    have hb_5 : sayB n x_1 = true := bool_t hr_4 c_5
    obtain ⟨t_5, ht_5, et_5⟩ := (sayB_iff (hI).le).1 hb_5
    have tn_5 : tN x_1 = t_5 := by rw [et_5]; exact tN_nI (by omega)
    refine lv_iload_n hx hb dX4_isDone_161 rfl (lv_at hl 1 rfl) ?_
    refine xc_Si (As := [.int x_2]) (rest := []) ⟨hx, hb, hml, hown, hts⟩ (kX4_isWoman l D cI x_2) (va_cwS 1 hts gX4_isDone_X4_isWoman rfl rfl rfl hs_X4_isWoman ⟨Nat.le_of_ble_eq_true rfl, Nat.le_of_ble_eq_true rfl⟩) hK hP [] rfl rfl hl.1 rfl (Nat.le_of_ble_eq_true rfl) dX4_isDone_162 ⟨Nat.zero_le _, Nat.zero_le _⟩ (fun r_6 hr_6 => ?_)
    refine lv_if_ne (tgt := 170) hx hb dX4_isDone_165 (by decide) (fun c_7 => ?_) (fun c_7 => ?_)
    · skip
      have hb_7 : womB x_2 = true := bool_t hr_6 c_7
      obtain ⟨w_7, hw_7, ew_7⟩ := womB_iff.1 hb_7
      refine lv_aload_n hx hb dX4_isDone_170 rfl (lv_at hl 3 rfl) ?_
      refine va_get (D := D) (ci := 3) (v := .ref a1) (C := RX4) (T := TX4) (N := 13) hx hb hts hi_X4 hown hK.1 hP 0 rfl rfl 0 (by decide) hk_9 (fun _ h9 => h9) rfl dX4_isDone_171 ?_
      refine lv_iload_n hx hb dX4_isDone_174 rfl (lv_at hl 2 rfl) ?_
      refine lv_iconst (v := 2) hx hb dX4_isDone_175 (by decide) ?_
      refine xc_Si (As := [.int x_1, .int 2]) (rest := [.ref a1]) ⟨hx, hb, hml, hown, hts⟩ (kX4_of l D cI x_1 2 t_5 2 et_5 (rfl : (2 : Int32) = nI 2)) (va_cwS 2 hts gX4_isDone_X4_of rfl rfl rfl hs_X4_of ⟨Nat.le_of_ble_eq_true rfl, Nat.le_of_ble_eq_true rfl⟩) hK hP [] rfl rfl hl.1 rfl (Nat.le_of_ble_eq_true rfl) dX4_isDone_176 ⟨Nat.zero_le _, Nat.zero_le _⟩ (fun r_8 hr_8 => ?_)
      refine lv_iload_n hx hb dX4_isDone_179 rfl (lv_at hl 1 rfl) ?_
      refine xa_st hx hb hK hP hD hS 1 rfl (j := (oF t_5 2)) hr_8 (by unfold oF; omega) (by decide) dX4_isDone_180 (fun H locs hP hD hS => ?_)
      obtain ⟨f_9, ef_9⟩ : ∃ z : Nat → Int32, z = upd gg.r (oF t_5 2) x_2 := ⟨_, rfl⟩
      replace hP : va_P D vwCl [(a0, .inr (3, [.ref a1, .ref a2, .ref a3, .ref a4, .int gg.hs, .ref a5, .ref a6, .ref a7, .int (nI gg.L), .int (nI gg.M), .int mm.pl, .ref a8, .int mm.sd])), (a1, .inl (cI, 49, .inl (upd gg.r (oF t_5 2) x_2))), (a2, .inl (cI, 49, .inl mm.m)), (a3, .inl (cI, 49, .inl gg.im)), (a4, .inl (cI, 49, .inl mm.ws)), (a5, .inl (cI, 96, .inl gg.lt)), (a6, .inl (cI, 16, .inl gg.rw)), (a7, .inl (cI, 7, .inl gg.rf)), (a8, .inl (cI, 3, .inl mm.nb))] H := hP
      replace hD : va_D A [(a0, .inr (3, [.ref a1, .ref a2, .ref a3, .ref a4, .int gg.hs, .ref a5, .ref a6, .ref a7, .int (nI gg.L), .int (nI gg.M), .int mm.pl, .ref a8, .int mm.sd])), (a1, .inl (cI, 49, .inl (upd gg.r (oF t_5 2) x_2))), (a2, .inl (cI, 49, .inl mm.m)), (a3, .inl (cI, 49, .inl gg.im)), (a4, .inl (cI, 49, .inl mm.ws)), (a5, .inl (cI, 96, .inl gg.lt)), (a6, .inl (cI, 16, .inl gg.rw)), (a7, .inl (cI, 7, .inl gg.rf)), (a8, .inl (cI, 3, .inl mm.nb))] := hD
      rw [← ef_9] at hP hD
      refine lv_aload_n hx hb dX4_isDone_181 rfl (lv_at hl 3 rfl) ?_
      refine va_get (D := D) (ci := 3) (v := .ref a1) (C := RX4) (T := TX4) (N := 13) hx hb hts hi_X4 hown hK.1 hP 0 rfl rfl 0 (by decide) hk_9 (fun _ h9 => h9) rfl dX4_isDone_182 ?_
      refine lv_iload_n hx hb dX4_isDone_185 rfl (lv_at hl 2 rfl) ?_
      refine lv_iconst (v := 4) hx hb dX4_isDone_186 (by decide) ?_
      refine xc_Si (As := [.int x_1, .int 4]) (rest := [.ref a1]) ⟨hx, hb, hml, hown, hts⟩ (kX4_of l D cI x_1 4 t_5 4 et_5 (rfl : (4 : Int32) = nI 4)) (va_cwS 2 hts gX4_isDone_X4_of rfl rfl rfl hs_X4_of ⟨Nat.le_of_ble_eq_true rfl, Nat.le_of_ble_eq_true rfl⟩) hK hP [] rfl rfl hl.1 rfl (Nat.le_of_ble_eq_true rfl) dX4_isDone_187 ⟨Nat.zero_le _, Nat.zero_le _⟩ (fun r_10 hr_10 => ?_)
      refine lv_iconst (v := 0) hx hb dX4_isDone_190 (by decide) ?_
      refine xa_st hx hb hK hP hD hS 1 rfl (j := (oF t_5 4)) hr_10 (by unfold oF; omega) (by decide) dX4_isDone_191 (fun H locs hP hD hS => ?_)
      obtain ⟨f_11, ef_11⟩ : ∃ z : Nat → Int32, z = upd f_9 (oF t_5 4) 0 := ⟨_, rfl⟩
      replace hP : va_P D vwCl [(a0, .inr (3, [.ref a1, .ref a2, .ref a3, .ref a4, .int gg.hs, .ref a5, .ref a6, .ref a7, .int (nI gg.L), .int (nI gg.M), .int mm.pl, .ref a8, .int mm.sd])), (a1, .inl (cI, 49, .inl (upd f_9 (oF t_5 4) 0))), (a2, .inl (cI, 49, .inl mm.m)), (a3, .inl (cI, 49, .inl gg.im)), (a4, .inl (cI, 49, .inl mm.ws)), (a5, .inl (cI, 96, .inl gg.lt)), (a6, .inl (cI, 16, .inl gg.rw)), (a7, .inl (cI, 7, .inl gg.rf)), (a8, .inl (cI, 3, .inl mm.nb))] H := hP
      replace hD : va_D A [(a0, .inr (3, [.ref a1, .ref a2, .ref a3, .ref a4, .int gg.hs, .ref a5, .ref a6, .ref a7, .int (nI gg.L), .int (nI gg.M), .int mm.pl, .ref a8, .int mm.sd])), (a1, .inl (cI, 49, .inl (upd f_9 (oF t_5 4) 0))), (a2, .inl (cI, 49, .inl mm.m)), (a3, .inl (cI, 49, .inl gg.im)), (a4, .inl (cI, 49, .inl mm.ws)), (a5, .inl (cI, 96, .inl gg.lt)), (a6, .inl (cI, 16, .inl gg.rw)), (a7, .inl (cI, 7, .inl gg.rf)), (a8, .inl (cI, 3, .inl mm.nb))] := hD
      rw [← ef_11] at hP hD
      refine lv_iconst (v := 1) hx hb dX4_isDone_192 (by decide) ?_
      exact hret 193 _ 1 f_11 _ _ dX4_isDone_193 (by refine ⟨?_, ?_⟩ <;> first | (simp [dnF, setAb, ← ex_1, ← ex_2, c_3, c_5, c_7, hb_5, tn_5, hb_7, hr_8, ef_9, hr_10, ef_11]; done) | (simp [dnF, setAb, ← ex_1, ← ex_2, c_3, c_5, c_7, hb_5, tn_5, hb_7, hr_8, ef_9, hr_10, ef_11, isI]; done)) hP hD hS
    have hb_7 : womB x_2 = false := bool_f hr_6 c_7
    refine lv_iconst (v := 0) hx hb dX4_isDone_168 (by decide) ?_
    exact hret 169 _ 0 gg.r _ _ dX4_isDone_169 (by refine ⟨?_, ?_⟩ <;> first | (simp [dnF, setAb, ← ex_1, ← ex_2, c_3, c_5, c_7, hb_5, tn_5, hb_7]; done) | (simp [dnF, setAb, ← ex_1, ← ex_2, c_3, c_5, c_7, hb_5, tn_5, hb_7, isI]; done)) hP hD hS
  by_cases c_12 : p0 = 98
  · refine xs_lin (k := 98) (off := 176) (tgt := 194) hx hb dX4_isDone_18 c_12 (by decide) (by decide) (by decide) ?_
    refine lv_iload_n hx hb dX4_isDone_194 rfl (lv_at hl 2 rfl) ?_
    refine xc_Si (As := [.int x_1]) (rest := []) ⟨hx, hb, hml, hown, hts⟩ (kX4_isWoman l D cI x_1) (va_cwS 1 hts gX4_isDone_X4_isWoman rfl rfl rfl hs_X4_isWoman ⟨Nat.le_of_ble_eq_true rfl, Nat.le_of_ble_eq_true rfl⟩) hK hP [] rfl rfl hl.1 rfl (Nat.le_of_ble_eq_true rfl) dX4_isDone_195 ⟨Nat.zero_le _, Nat.zero_le _⟩ (fun r_13 hr_13 => ?_)
    refine lv_if_ne (tgt := 203) hx hb dX4_isDone_198 (by decide) (fun c_14 => ?_) (fun c_14 => ?_)
    · skip
      have hb_14 : womB x_1 = true := bool_t hr_13 c_14
      obtain ⟨w_14, hw_14, ew_14⟩ := womB_iff.1 hb_14
      refine lv_aload_n hx hb dX4_isDone_203 rfl (lv_at hl 3 rfl) ?_
      refine va_get (D := D) (ci := 3) (v := .ref a1) (C := RX4) (T := TX4) (N := 13) hx hb hts hi_X4 hown hK.1 hP 0 rfl rfl 0 (by decide) hk_9 (fun _ h9 => h9) rfl dX4_isDone_204 ?_
      refine lv_iload_n hx hb dX4_isDone_207 rfl (lv_at hl 2 rfl) ?_
      refine xw_Sv (As := [.ref a1, .int x_1]) (rest := []) (Wn := fun u => [(a0, .inr (3, [.ref a1, .ref a2, .ref a3, .ref a4, .int gg.hs, .ref a5, .ref a6, .ref a7, .int (nI gg.L), .int (nI gg.M), .int mm.pl, .ref a8, .int mm.sd])), (a1, .inl (cI, 49, .inl u)), (a2, .inl (cI, 49, .inl mm.m)), (a3, .inl (cI, 49, .inl gg.im)), (a4, .inl (cI, 49, .inl mm.ws)), (a5, .inl (cI, 96, .inl gg.lt)), (a6, .inl (cI, 16, .inl gg.rw)), (a7, .inl (cI, 7, .inl gg.rf)), (a8, .inl (cI, 3, .inl mm.nb))]) (Wr := [(a0, .inr (3, [.ref a1, .ref a2, .ref a3, .ref a4, .int gg.hs, .ref a5, .ref a6, .ref a7, .int (nI gg.L), .int (nI gg.M), .int mm.pl, .ref a8, .int mm.sd])), (a2, .inl (cI, 49, .inl mm.m)), (a3, .inl (cI, 49, .inl gg.im)), (a4, .inl (cI, 49, .inl mm.ws)), (a5, .inl (cI, 96, .inl gg.lt)), (a6, .inl (cI, 16, .inl gg.rw)), (a7, .inl (cI, 7, .inl gg.rf)), (a8, .inl (cI, 3, .inl mm.nb))]) ⟨hx, hb, hml, hown, hts⟩ (kX4_fallsIn l D cI H.size a1 gg.r n hI x_1) (va_cwS 2 hts gX4_isDone_X4_fallsIn rfl rfl rfl hs_X4_fallsIn ⟨Nat.le_of_ble_eq_true rfl, Nat.le_of_ble_eq_true rfl⟩) hK hP hD hS hA [1] [0, 2, 3, 4, 5, 6, 7, 8] [0, 8, 1, 2, 3, 4, 5, 6, 7] rfl rfl (by decide) (by decide) (by decide) (by decide) (fun u => rfl) rfl hl.1 rfl (Nat.le_of_ble_eq_true rfl) dX4_isDone_208 ⟨Nat.zero_le _, Nat.zero_le _⟩ (fun u_15 H locs hw_15 hP hD hS => ?_)
      have hI_u_15 : Inv n u_15 := (by rw [hw_15]; exact hI.ifall _)
      refine lv_iconst (v := 1) hx hb dX4_isDone_211 (by decide) ?_
      exact hret 212 _ 1 u_15 _ _ dX4_isDone_212 (by refine ⟨?_, ?_⟩ <;> first | (simp [dnF, setAb, ← ex_1, ← ex_2, c_3, c_12, c_14, hb_14, hw_15]; done) | (simp [dnF, setAb, ← ex_1, ← ex_2, c_3, c_12, c_14, hb_14, hw_15, isI]; done)) hP hD hS
    have hb_14 : womB x_1 = false := bool_f hr_13 c_14
    refine lv_iconst (v := 0) hx hb dX4_isDone_201 (by decide) ?_
    exact hret 202 _ 0 gg.r _ _ dX4_isDone_202 (by refine ⟨?_, ?_⟩ <;> first | (simp [dnF, setAb, ← ex_1, ← ex_2, c_3, c_12, c_14, hb_14]; done) | (simp [dnF, setAb, ← ex_1, ← ex_2, c_3, c_12, c_14, hb_14, isI]; done)) hP hD hS
  by_cases c_16 : p0 = 115
  · refine xs_lin (k := 115) (off := 50) (tgt := 68) hx hb dX4_isDone_18 c_16 (by decide) (by decide) (by decide) ?_
    obtain ⟨ka, hka, eka⟩ := hn0 c_16
    obtain ⟨kb, hkb, ekb⟩ := hn1 (Or.inl c_16)
    refine lv_aload_n hx hb dX4_isDone_68 rfl (lv_at hl 3 rfl) ?_
    refine va_get (D := D) (ci := 3) (v := .ref a8) (C := RX4) (T := TX4) (N := 13) hx hb hts hi_X4 hown hK.1 hP 0 rfl rfl 11 (by decide) hk_31 (fun _ h9 => h9) rfl dX4_isDone_69 ?_
    refine lv_iconst (v := 2) hx hb dX4_isDone_72 (by decide) ?_
    refine xa_ld hx hb hK hP 8 rfl (j := 2) (rfl : (2 : Int32) = nI 2) (by omega) (by decide) dX4_isDone_73 ?_
    refine xc_Si (As := [.int (mm.nb 2)]) (rest := []) ⟨hx, hb, hml, hown, hts⟩ (kX4_isWoman l D cI (mm.nb 2)) (va_cwS 1 hts gX4_isDone_X4_isWoman rfl rfl rfl hs_X4_isWoman ⟨Nat.le_of_ble_eq_true rfl, Nat.le_of_ble_eq_true rfl⟩) hK hP [] rfl rfl hl.1 rfl (Nat.le_of_ble_eq_true rfl) dX4_isDone_74 ⟨Nat.zero_le _, Nat.zero_le _⟩ (fun r_17 hr_17 => ?_)
    refine lv_if_eq (tgt := 102) hx hb dX4_isDone_77 (by decide) (fun c_18 => ?_) (fun c_18 => ?_)
    · skip
      have hb_18 : womB (mm.nb 2) = false := bool_f hr_17 c_18
      refine lv_iconst (v := 0) hx hb dX4_isDone_102 (by decide) ?_
      exact hret 103 _ 0 gg.r _ _ dX4_isDone_103 (by refine ⟨?_, ?_⟩ <;> first | (simp [dnF, setAb, ← ex_1, ← ex_2, c_3, c_12, c_16, c_18, hb_18]; done) | (simp [dnF, setAb, ← ex_1, ← ex_2, c_3, c_12, c_16, c_18, hb_18, isI]; done)) hP hD hS
    have hb_18 : womB (mm.nb 2) = true := bool_t hr_17 c_18
    obtain ⟨w_18, hw_18, ew_18⟩ := womB_iff.1 hb_18
    refine lv_aload_n hx hb dX4_isDone_80 rfl (lv_at hl 3 rfl) ?_
    refine va_get (D := D) (ci := 3) (v := .ref a1) (C := RX4) (T := TX4) (N := 13) hx hb hts hi_X4 hown hK.1 hP 0 rfl rfl 0 (by decide) hk_9 (fun _ h9 => h9) rfl dX4_isDone_81 ?_
    refine lv_iload_n hx hb dX4_isDone_84 rfl (lv_at hl 2 rfl) ?_
    refine lv_iload_n hx hb dX4_isDone_85 rfl (lv_at hl 1 rfl) ?_
    refine lv_aload_n hx hb dX4_isDone_86 rfl (lv_at hl 3 rfl) ?_
    refine va_get (D := D) (ci := 3) (v := .ref a8) (C := RX4) (T := TX4) (N := 13) hx hb hts hi_X4 hown hK.1 hP 0 rfl rfl 11 (by decide) hk_31 (fun _ h9 => h9) rfl dX4_isDone_87 ?_
    refine lv_iconst (v := 2) hx hb dX4_isDone_90 (by decide) ?_
    refine xa_ld hx hb hK hP 8 rfl (j := 2) (rfl : (2 : Int32) = nI 2) (by omega) (by decide) dX4_isDone_91 ?_
    refine xw_Si (As := [.ref a1, .int x_1, .int x_2, .int (mm.nb 2)]) (rest := []) (Wn := fun u => [(a0, .inr (3, [.ref a1, .ref a2, .ref a3, .ref a4, .int gg.hs, .ref a5, .ref a6, .ref a7, .int (nI gg.L), .int (nI gg.M), .int mm.pl, .ref a8, .int mm.sd])), (a1, .inl (cI, 49, .inl u)), (a2, .inl (cI, 49, .inl mm.m)), (a3, .inl (cI, 49, .inl gg.im)), (a4, .inl (cI, 49, .inl mm.ws)), (a5, .inl (cI, 96, .inl gg.lt)), (a6, .inl (cI, 16, .inl gg.rw)), (a7, .inl (cI, 7, .inl gg.rf)), (a8, .inl (cI, 3, .inl mm.nb))]) (Wr := [(a0, .inr (3, [.ref a1, .ref a2, .ref a3, .ref a4, .int gg.hs, .ref a5, .ref a6, .ref a7, .int (nI gg.L), .int (nI gg.M), .int mm.pl, .ref a8, .int mm.sd])), (a2, .inl (cI, 49, .inl mm.m)), (a3, .inl (cI, 49, .inl gg.im)), (a4, .inl (cI, 49, .inl mm.ws)), (a5, .inl (cI, 96, .inl gg.lt)), (a6, .inl (cI, 16, .inl gg.rw)), (a7, .inl (cI, 7, .inl gg.rf)), (a8, .inl (cI, 3, .inl mm.nb))]) ⟨hx, hb, hml, hown, hts⟩ (kX4_adds l D cI H.size a1 gg.r n hI x_1 x_2 (mm.nb 2)) (va_cwS 4 hts gX4_isDone_X4_adds rfl rfl rfl hs_X4_adds ⟨Nat.le_of_ble_eq_true rfl, Nat.le_of_ble_eq_true rfl⟩) hK hP hD hS hA [1] [0, 2, 3, 4, 5, 6, 7, 8] [0, 8, 1, 2, 3, 4, 5, 6, 7] rfl rfl (by decide) (by decide) (by decide) (by decide) (fun u => rfl) rfl hl.1 rfl (Nat.le_of_ble_eq_true rfl) dX4_isDone_92 ⟨Nat.zero_le _, Nat.zero_le _⟩ (fun r_19 u_19 H locs hw_19 hP hD hS => ?_)
    refine lv_if_eq (tgt := 102) hx hb dX4_isDone_95 (by decide) (fun c_20 => ?_) (fun c_20 => ?_)
    · skip
      obtain ⟨hl_19, hu_19⟩ : ¬ n < 9 ∧ u_19 = gg.r := by
        rcases hw_19 with q | q
        · exact ⟨by omega, q.2.2⟩
        · exact absurd (q.2.1.symm.trans c_20) (by decide)
      refine lv_iconst (v := 0) hx hb dX4_isDone_102 (by decide) ?_
      exact hret 103 _ 0 u_19 _ _ dX4_isDone_103 (by refine ⟨?_, ?_⟩ <;> first | (simp [dnF, setAb, ← ex_1, ← ex_2, c_3, c_12, c_16, c_18, c_20, hb_18, hl_19, hu_19]; done) | (simp [dnF, setAb, ← ex_1, ← ex_2, c_3, c_12, c_16, c_18, c_20, hb_18, hl_19, hu_19, isI]; done)) hP hD hS
    obtain ⟨hl_19, hu_19⟩ : n < 9 ∧ u_19 = addR gg.r n x_1 x_2 (mm.nb 2) := by
      rcases hw_19 with q | q
      · exact absurd q.2.1 c_20
      · exact ⟨q.1, q.2.2⟩
    refine lv_iconst (v := 1) hx hb dX4_isDone_98 (by decide) ?_
    refine lv_goto (tgt := 103) hx hb dX4_isDone_99 (by decide) ?_
    exact hret 103 _ 1 u_19 _ _ dX4_isDone_103 (by refine ⟨?_, ?_⟩ <;> first | (simp [dnF, setAb, ← ex_1, ← ex_2, c_3, c_12, c_16, c_18, c_20, hb_18, hl_19, hu_19]; done) | (simp [dnF, setAb, ← ex_1, ← ex_2, c_3, c_12, c_16, c_18, c_20, hb_18, hl_19, hu_19, isI]; done)) hP hD hS
  by_cases c_21 : p0 = 116
  · refine xs_lin (k := 116) (off := 86) (tgt := 104) hx hb dX4_isDone_18 c_21 (by decide) (by decide) (by decide) ?_
    refine lv_aload_n hx hb dX4_isDone_104 rfl (lv_at hl 3 rfl) ?_
    refine lv_iload_n hx hb dX4_isDone_105 rfl (lv_at hl 2 rfl) ?_
    refine xc_Vi (As := [.int x_1]) (rest := []) ⟨hx, hb, hml, hown, hts⟩ (kX4_isSaying l D cI a0 a1 a2 a3 a4 a5 a6 a7 a8 (n, gg.r, gg.m, gg.im, gg.hs, gg.lt, gg.L, gg.rw, gg.M, gg.rf) mm n hI x_1) (cwV 1 hts gX4_isDone_X4_isSaying rfl rfl rfl hv_X4_isSaying ⟨Nat.le_of_ble_eq_true rfl, Nat.le_of_ble_eq_true rfl⟩) hK hP [0, 1] rfl 0 rfl rfl rfl hl.1 rfl (Nat.le_of_ble_eq_true rfl) dX4_isDone_106 ⟨Nat.zero_le _, Nat.zero_le _⟩ (fun r_22 hr_22 => ?_)
    refine lv_if_ne (tgt := 114) hx hb dX4_isDone_109 (by decide) (fun c_23 => ?_) (fun c_23 => ?_)
    · skip
      have hb_23 : sayB n x_1 = true := bool_t hr_22 c_23
      obtain ⟨t_23, ht_23, et_23⟩ := (sayB_iff (hI).le).1 hb_23
      have tn_23 : tN x_1 = t_23 := by rw [et_23]; exact tN_nI (by omega)
      refine lv_aload_n hx hb dX4_isDone_114 rfl (lv_at hl 3 rfl) ?_
      refine va_get (D := D) (ci := 3) (v := .ref a1) (C := RX4) (T := TX4) (N := 13) hx hb hts hi_X4 hown hK.1 hP 0 rfl rfl 0 (by decide) hk_9 (fun _ h9 => h9) rfl dX4_isDone_115 ?_
      refine lv_iload_n hx hb dX4_isDone_118 rfl (lv_at hl 2 rfl) ?_
      refine lv_iconst (v := 4) hx hb dX4_isDone_119 (by decide) ?_
      refine xc_Si (As := [.int x_1, .int 4]) (rest := [.ref a1]) ⟨hx, hb, hml, hown, hts⟩ (kX4_of l D cI x_1 4 t_23 4 et_23 (rfl : (4 : Int32) = nI 4)) (va_cwS 2 hts gX4_isDone_X4_of rfl rfl rfl hs_X4_of ⟨Nat.le_of_ble_eq_true rfl, Nat.le_of_ble_eq_true rfl⟩) hK hP [] rfl rfl hl.1 rfl (Nat.le_of_ble_eq_true rfl) dX4_isDone_120 ⟨Nat.zero_le _, Nat.zero_le _⟩ (fun r_24 hr_24 => ?_)
      refine lv_dup2_11 hx hb dX4_isDone_123 rfl rfl ?_
      refine xa_ld hx hb hK hP 1 rfl (j := (oF t_23 4)) hr_24 (by unfold oF; omega) (by decide) dX4_isDone_124 ?_
      refine lv_iconst (v := 1) hx hb dX4_isDone_125 (by decide) ?_
      refine lv_ixor hx hb dX4_isDone_126 ?_
      refine xa_st hx hb hK hP hD hS 1 rfl (j := (oF t_23 4)) hr_24 (by unfold oF; omega) (by decide) dX4_isDone_127 (fun H locs hP hD hS => ?_)
      obtain ⟨f_25, ef_25⟩ : ∃ z : Nat → Int32, z = upd gg.r (oF t_23 4) ((gg.r (oF t_23 4)) ^^^ 1) := ⟨_, rfl⟩
      replace hP : va_P D vwCl [(a0, .inr (3, [.ref a1, .ref a2, .ref a3, .ref a4, .int gg.hs, .ref a5, .ref a6, .ref a7, .int (nI gg.L), .int (nI gg.M), .int mm.pl, .ref a8, .int mm.sd])), (a1, .inl (cI, 49, .inl (upd gg.r (oF t_23 4) ((gg.r (oF t_23 4)) ^^^ 1)))), (a2, .inl (cI, 49, .inl mm.m)), (a3, .inl (cI, 49, .inl gg.im)), (a4, .inl (cI, 49, .inl mm.ws)), (a5, .inl (cI, 96, .inl gg.lt)), (a6, .inl (cI, 16, .inl gg.rw)), (a7, .inl (cI, 7, .inl gg.rf)), (a8, .inl (cI, 3, .inl mm.nb))] H := hP
      replace hD : va_D A [(a0, .inr (3, [.ref a1, .ref a2, .ref a3, .ref a4, .int gg.hs, .ref a5, .ref a6, .ref a7, .int (nI gg.L), .int (nI gg.M), .int mm.pl, .ref a8, .int mm.sd])), (a1, .inl (cI, 49, .inl (upd gg.r (oF t_23 4) ((gg.r (oF t_23 4)) ^^^ 1)))), (a2, .inl (cI, 49, .inl mm.m)), (a3, .inl (cI, 49, .inl gg.im)), (a4, .inl (cI, 49, .inl mm.ws)), (a5, .inl (cI, 96, .inl gg.lt)), (a6, .inl (cI, 16, .inl gg.rw)), (a7, .inl (cI, 7, .inl gg.rf)), (a8, .inl (cI, 3, .inl mm.nb))] := hD
      rw [← ef_25] at hP hD
      refine lv_iconst (v := 1) hx hb dX4_isDone_128 (by decide) ?_
      exact hret 129 _ 1 f_25 _ _ dX4_isDone_129 (by refine ⟨?_, ?_⟩ <;> first | (simp [dnF, setAb, ← ex_1, ← ex_2, c_3, c_12, c_16, c_21, c_23, hb_23, tn_23, hr_24, ef_25]; done) | (simp [dnF, setAb, ← ex_1, ← ex_2, c_3, c_12, c_16, c_21, c_23, hb_23, tn_23, hr_24, ef_25, isI]; done)) hP hD hS
    have hb_23 : sayB n x_1 = false := bool_f hr_22 c_23
    refine lv_iconst (v := 0) hx hb dX4_isDone_112 (by decide) ?_
    exact hret 113 _ 0 gg.r _ _ dX4_isDone_113 (by refine ⟨?_, ?_⟩ <;> first | (simp [dnF, setAb, ← ex_1, ← ex_2, c_3, c_12, c_16, c_21, c_23, hb_23]; done) | (simp [dnF, setAb, ← ex_1, ← ex_2, c_3, c_12, c_16, c_21, c_23, hb_23, isI]; done)) hP hD hS
  by_cases c_26 : p0 = 119
  · refine xs_lin (k := 119) (off := 112) (tgt := 130) hx hb dX4_isDone_18 c_26 (by decide) (by decide) (by decide) ?_
    obtain ⟨kb, hkb, ekb⟩ := hn1 (Or.inr c_26)
    refine lv_aload_n hx hb dX4_isDone_130 rfl (lv_at hl 3 rfl) ?_
    refine lv_iload_n hx hb dX4_isDone_131 rfl (lv_at hl 2 rfl) ?_
    refine xc_Vi (As := [.int x_1]) (rest := []) ⟨hx, hb, hml, hown, hts⟩ (kX4_isSaying l D cI a0 a1 a2 a3 a4 a5 a6 a7 a8 (n, gg.r, gg.m, gg.im, gg.hs, gg.lt, gg.L, gg.rw, gg.M, gg.rf) mm n hI x_1) (cwV 1 hts gX4_isDone_X4_isSaying rfl rfl rfl hv_X4_isSaying ⟨Nat.le_of_ble_eq_true rfl, Nat.le_of_ble_eq_true rfl⟩) hK hP [0, 1] rfl 0 rfl rfl rfl hl.1 rfl (Nat.le_of_ble_eq_true rfl) dX4_isDone_132 ⟨Nat.zero_le _, Nat.zero_le _⟩ (fun r_27 hr_27 => ?_)
    refine lv_if_ne (tgt := 140) hx hb dX4_isDone_135 (by decide) (fun c_28 => ?_) (fun c_28 => ?_)
    · skip
      have hb_28 : sayB n x_1 = true := bool_t hr_27 c_28
      obtain ⟨t_28, ht_28, et_28⟩ := (sayB_iff (hI).le).1 hb_28
      have tn_28 : tN x_1 = t_28 := by rw [et_28]; exact tN_nI (by omega)
      refine lv_aload_n hx hb dX4_isDone_140 rfl (lv_at hl 3 rfl) ?_
      refine va_get (D := D) (ci := 3) (v := .ref a1) (C := RX4) (T := TX4) (N := 13) hx hb hts hi_X4 hown hK.1 hP 0 rfl rfl 0 (by decide) hk_9 (fun _ h9 => h9) rfl dX4_isDone_141 ?_
      refine lv_iload_n hx hb dX4_isDone_144 rfl (lv_at hl 2 rfl) ?_
      refine lv_iconst (v := 3) hx hb dX4_isDone_145 (by decide) ?_
      refine xc_Si (As := [.int x_1, .int 3]) (rest := [.ref a1]) ⟨hx, hb, hml, hown, hts⟩ (kX4_of l D cI x_1 3 t_28 3 et_28 (rfl : (3 : Int32) = nI 3)) (va_cwS 2 hts gX4_isDone_X4_of rfl rfl rfl hs_X4_of ⟨Nat.le_of_ble_eq_true rfl, Nat.le_of_ble_eq_true rfl⟩) hK hP [] rfl rfl hl.1 rfl (Nat.le_of_ble_eq_true rfl) dX4_isDone_146 ⟨Nat.zero_le _, Nat.zero_le _⟩ (fun r_29 hr_29 => ?_)
      refine lv_iload_n hx hb dX4_isDone_149 rfl (lv_at hl 1 rfl) ?_
      refine xa_st hx hb hK hP hD hS 1 rfl (j := (oF t_28 3)) hr_29 (by unfold oF; omega) (by decide) dX4_isDone_150 (fun H locs hP hD hS => ?_)
      obtain ⟨f_30, ef_30⟩ : ∃ z : Nat → Int32, z = upd gg.r (oF t_28 3) x_2 := ⟨_, rfl⟩
      replace hP : va_P D vwCl [(a0, .inr (3, [.ref a1, .ref a2, .ref a3, .ref a4, .int gg.hs, .ref a5, .ref a6, .ref a7, .int (nI gg.L), .int (nI gg.M), .int mm.pl, .ref a8, .int mm.sd])), (a1, .inl (cI, 49, .inl (upd gg.r (oF t_28 3) x_2))), (a2, .inl (cI, 49, .inl mm.m)), (a3, .inl (cI, 49, .inl gg.im)), (a4, .inl (cI, 49, .inl mm.ws)), (a5, .inl (cI, 96, .inl gg.lt)), (a6, .inl (cI, 16, .inl gg.rw)), (a7, .inl (cI, 7, .inl gg.rf)), (a8, .inl (cI, 3, .inl mm.nb))] H := hP
      replace hD : va_D A [(a0, .inr (3, [.ref a1, .ref a2, .ref a3, .ref a4, .int gg.hs, .ref a5, .ref a6, .ref a7, .int (nI gg.L), .int (nI gg.M), .int mm.pl, .ref a8, .int mm.sd])), (a1, .inl (cI, 49, .inl (upd gg.r (oF t_28 3) x_2))), (a2, .inl (cI, 49, .inl mm.m)), (a3, .inl (cI, 49, .inl gg.im)), (a4, .inl (cI, 49, .inl mm.ws)), (a5, .inl (cI, 96, .inl gg.lt)), (a6, .inl (cI, 16, .inl gg.rw)), (a7, .inl (cI, 7, .inl gg.rf)), (a8, .inl (cI, 3, .inl mm.nb))] := hD
      rw [← ef_30] at hP hD
      refine lv_iconst (v := 1) hx hb dX4_isDone_151 (by decide) ?_
      exact hret 152 _ 1 f_30 _ _ dX4_isDone_152 (by refine ⟨?_, ?_⟩ <;> first | (simp [dnF, setAb, ← ex_1, ← ex_2, c_3, c_12, c_16, c_21, c_26, c_28, hb_28, tn_28, hr_29, ef_30]; done) | (simp [dnF, setAb, ← ex_1, ← ex_2, c_3, c_12, c_16, c_21, c_26, c_28, hb_28, tn_28, hr_29, ef_30, isI]; done)) hP hD hS
    have hb_28 : sayB n x_1 = false := bool_f hr_27 c_28
    refine lv_iconst (v := 0) hx hb dX4_isDone_138 (by decide) ?_
    exact hret 139 _ 0 gg.r _ _ dX4_isDone_139 (by refine ⟨?_, ?_⟩ <;> first | (simp [dnF, setAb, ← ex_1, ← ex_2, c_3, c_12, c_16, c_21, c_26, c_28, hb_28]; done) | (simp [dnF, setAb, ← ex_1, ← ex_2, c_3, c_12, c_16, c_21, c_26, c_28, hb_28, isI]; done)) hP hD hS
  refine xs_lout (tgt := 213) (ks := [97, 98, 115, 116, 119]) hx hb dX4_isDone_18 (List.forall_mem_cons.mpr ⟨c_3, List.forall_mem_cons.mpr ⟨c_12, List.forall_mem_cons.mpr ⟨c_16, List.forall_mem_cons.mpr ⟨c_21, List.forall_mem_cons.mpr ⟨c_26, fun _ h => absurd h List.not_mem_nil⟩⟩⟩⟩⟩) (by decide) (by decide) (by decide) ?_
  refine lv_iload_n hx hb dX4_isDone_213 rfl (lv_at hl 2 rfl) ?_
  refine lv_iconst (v := 1) hx hb dX4_isDone_214 (by decide) ?_
  refine lv_bipush (v := 60) hx hb dX4_isDone_215 (by decide) ?_
  refine xc_Si (As := [.int x_1, .int 1, .int 60]) (rest := []) ⟨hx, hb, hml, hown, hts⟩ (kX4_isIn l D cI x_1 1 60) (va_cwS 3 hts gX4_isDone_X4_isIn rfl rfl rfl hs_X4_isIn ⟨Nat.le_of_ble_eq_true rfl, Nat.le_of_ble_eq_true rfl⟩) hK hP [] rfl rfl hl.1 rfl (Nat.le_of_ble_eq_true rfl) dX4_isDone_217 ⟨Nat.zero_le _, Nat.zero_le _⟩ (fun r_31 hr_31 => ?_)
  refine lv_if_eq (tgt := 237) hx hb dX4_isDone_220 (by decide) (fun c_32 => ?_) (fun c_32 => ?_)
  · skip
    have hb_32 : isI x_1 1 60 = false := bool_f (hr_31.trans isI_ite) c_32
    refine lv_iconst (v := 0) hx hb dX4_isDone_237 (by decide) ?_
    exact hret 238 _ 0 gg.r _ _ dX4_isDone_238 (by refine ⟨?_, ?_⟩ <;> first | (simp [dnF, setAb, ← ex_1, ← ex_2, c_3, c_12, c_16, c_21, c_26, c_32, hb_32]; done) | (simp [dnF, setAb, ← ex_1, ← ex_2, c_3, c_12, c_16, c_21, c_26, c_32, hb_32, isI]; done)) hP hD hS
  have hb_32 : isI x_1 1 60 = true := bool_t (hr_31.trans isI_ite) c_32
  obtain ⟨i_32, il_32, iu_32, ei_32⟩ := isI_nat (a := 1) (b := 60) (rfl : (1 : Int32) = nI 1) (rfl : (60 : Int32) = nI 60) (by decide) (by omega) hb_32
  have tn_32 : tN x_1 = i_32 := by rw [ei_32]; exact tN_nI (by omega)
  refine lv_aload_n hx hb dX4_isDone_223 rfl (lv_at hl 3 rfl) ?_
  refine va_get (D := D) (ci := 3) (v := .ref a1) (C := RX4) (T := TX4) (N := 13) hx hb hts hi_X4 hown hK.1 hP 0 rfl rfl 0 (by decide) hk_9 (fun _ h9 => h9) rfl dX4_isDone_224 ?_
  refine lv_iconst (v := 1) hx hb dX4_isDone_227 (by decide) ?_
  refine xa_ld hx hb hK hP 1 rfl (j := 1) (rfl : (1 : Int32) = nI 1) (by omega) (by decide) dX4_isDone_228 ?_
  refine lv_iload_n hx hb dX4_isDone_229 rfl (lv_at hl 2 rfl) ?_
  refine lv_iadd hx hb dX4_isDone_230 ?_
  refine lv_sipush (v := 999) hx hb dX4_isDone_231 (by decide) ?_
  refine lv_icmp_le (tgt := 239) hx hb dX4_isDone_234 (by decide) (fun c_33 => ?_) (fun c_33 => ?_)
  · skip
    have d_33 : ¬ 999 < ((gg.r 1) + x_1) := Int32.not_lt.2 c_33
    refine lv_aload_n hx hb dX4_isDone_239 rfl (lv_at hl 3 rfl) ?_
    refine va_get (D := D) (ci := 3) (v := .ref a1) (C := RX4) (T := TX4) (N := 13) hx hb hts hi_X4 hown hK.1 hP 0 rfl rfl 0 (by decide) hk_9 (fun _ h9 => h9) rfl dX4_isDone_240 ?_
    refine lv_iload_n hx hb dX4_isDone_243 rfl (lv_at hl 2 rfl) ?_
    refine xw_Si (As := [.ref a1, .int x_1]) (rest := []) (Wn := fun u => [(a0, .inr (3, [.ref a1, .ref a2, .ref a3, .ref a4, .int gg.hs, .ref a5, .ref a6, .ref a7, .int (nI gg.L), .int (nI gg.M), .int mm.pl, .ref a8, .int mm.sd])), (a1, .inl (cI, 49, .inl u)), (a2, .inl (cI, 49, .inl mm.m)), (a3, .inl (cI, 49, .inl gg.im)), (a4, .inl (cI, 49, .inl mm.ws)), (a5, .inl (cI, 96, .inl gg.lt)), (a6, .inl (cI, 16, .inl gg.rw)), (a7, .inl (cI, 7, .inl gg.rf)), (a8, .inl (cI, 3, .inl mm.nb))]) (Wr := [(a0, .inr (3, [.ref a1, .ref a2, .ref a3, .ref a4, .int gg.hs, .ref a5, .ref a6, .ref a7, .int (nI gg.L), .int (nI gg.M), .int mm.pl, .ref a8, .int mm.sd])), (a2, .inl (cI, 49, .inl mm.m)), (a3, .inl (cI, 49, .inl gg.im)), (a4, .inl (cI, 49, .inl mm.ws)), (a5, .inl (cI, 96, .inl gg.lt)), (a6, .inl (cI, 16, .inl gg.rw)), (a7, .inl (cI, 7, .inl gg.rf)), (a8, .inl (cI, 3, .inl mm.nb))]) ⟨hx, hb, hml, hown, hts⟩ (kX4_daysOn l D cI H.size a1 gg.r n hI x_1 i_32 ei_32 (by omega)) (va_cwS 2 hts gX4_isDone_X4_daysOn rfl rfl rfl hs_X4_daysOn ⟨Nat.le_of_ble_eq_true rfl, Nat.le_of_ble_eq_true rfl⟩) hK hP hD hS hA [1] [0, 2, 3, 4, 5, 6, 7, 8] [0, 8, 1, 2, 3, 4, 5, 6, 7] rfl rfl (by decide) (by decide) (by decide) (by decide) (fun u => rfl) rfl hl.1 rfl (Nat.le_of_ble_eq_true rfl) dX4_isDone_244 ⟨Nat.zero_le _, Nat.zero_le _⟩ (fun r_34 u_34 H locs hw_34 hP hD hS => ?_)
    obtain ⟨hr_34, hu_34⟩ := hw_34
    have hI_u_34 : Inv n u_34 := (by rw [hu_34]; exact hI.idsR _)
    refine lv_istore (lv' := [(4, .int r_34), (3, .int x_2), (2, .int x_1), (0, .ref a0), (1, .int p0)]) hx hb dX4_isDone_247 hl (by decide) rfl (fun ls hl => ?_)
    refine lv_iconst (v := 1) hx hb dX4_isDone_249 (by decide) ?_
    exact hret 250 _ 1 u_34 _ _ dX4_isDone_250 (by refine ⟨?_, ?_⟩ <;> first | (simp [dnF, setAb, ← ex_1, ← ex_2, c_3, c_12, c_16, c_21, c_26, c_32, c_33, hb_32, tn_32, hu_34, hr_34]; done) | (simp [dnF, setAb, ← ex_1, ← ex_2, c_3, c_12, c_16, c_21, c_26, c_32, c_33, hb_32, tn_32, hu_34, hr_34, isI]; done)) hP hD hS
  have d_33 : 999 < ((gg.r 1) + x_1) := Int32.not_le.1 c_33
  refine lv_iconst (v := 0) hx hb dX4_isDone_237 (by decide) ?_
  exact hret 238 _ 0 gg.r _ _ dX4_isDone_238 (by refine ⟨?_, ?_⟩ <;> first | (simp [dnF, setAb, ← ex_1, ← ex_2, c_3, c_12, c_16, c_21, c_26, c_32, c_33, hb_32, tn_32]; done) | (simp [dnF, setAb, ← ex_1, ← ex_2, c_3, c_12, c_16, c_21, c_26, c_32, c_33, hb_32, tn_32, isI]; done)) hP hD hS

set_option maxHeartbeats 4000000 in
set_option maxRecDepth 100000 in
theorem kX4_close (l : Launch) (D : va_G) (cI : ClassId) (sz : Nat) (a0 a1 a2 a3 a4 a5 a6 a7 a8 : Nat) (gg : GG) (mm : MS) (hG : Good gg) : Met l yX4_close wsX4_close ({ frames := 8, cells := 0, slots := 0, locals := 179 }) (PRW D cI [.ref a0] [(a0, .inr (3, [.ref a1, .ref a2, .ref a3, .ref a4, .int gg.hs, .ref a5, .ref a6, .ref a7, .int (nI gg.L), .int (nI gg.M), .int mm.pl, .ref a8, .int mm.sd])), (a1, .inl (cI, 49, .inl gg.r)), (a2, .inl (cI, 49, .inl mm.m)), (a3, .inl (cI, 49, .inl gg.im)), (a4, .inl (cI, 49, .inl mm.ws)), (a5, .inl (cI, 96, .inl gg.lt)), (a6, .inl (cI, 16, .inl gg.rw)), (a7, .inl (cI, 7, .inl gg.rf)), (a8, .inl (cI, 3, .inl mm.nb))] sz) (va_Qi (S := GG × MS) (fun v u => (v, u.1) = sp_close gg) (BRW D [(a0, .inr (3, [.ref a1, .ref a2, .ref a3, .ref a4, .int gg.hs, .ref a5, .ref a6, .ref a7, .int (nI gg.L), .int (nI gg.M), .int mm.pl, .ref a8, .int mm.sd])), (a1, .inl (cI, 49, .inl gg.r)), (a2, .inl (cI, 49, .inl mm.m)), (a3, .inl (cI, 49, .inl gg.im)), (a4, .inl (cI, 49, .inl mm.ws)), (a5, .inl (cI, 96, .inl gg.lt)), (a6, .inl (cI, 16, .inl gg.rw)), (a7, .inl (cI, 7, .inl gg.rf)), (a8, .inl (cI, 3, .inl mm.nb))] sz (fun u => [(a0, .inr (3, [.ref a1, .ref a2, .ref a3, .ref a4, .int u.1.hs, .ref a5, .ref a6, .ref a7, .int (nI u.1.L), .int (nI u.1.M), .int u.2.pl, .ref a8, .int u.2.sd])), (a1, .inl (cI, 49, .inl u.1.r)), (a2, .inl (cI, 49, .inl u.2.m)), (a3, .inl (cI, 49, .inl u.1.im)), (a4, .inl (cI, 49, .inl u.2.ws)), (a5, .inl (cI, 96, .inl u.1.lt)), (a6, .inl (cI, 16, .inl u.1.rw)), (a7, .inl (cI, 7, .inl u.1.rf)), (a8, .inl (cI, 3, .inl u.2.nb))])) (va_A [(a0, .inr (3, [.ref a1, .ref a2, .ref a3, .ref a4, .int gg.hs, .ref a5, .ref a6, .ref a7, .int (nI gg.L), .int (nI gg.M), .int mm.pl, .ref a8, .int mm.sd])), (a1, .inl (cI, 49, .inl gg.r)), (a2, .inl (cI, 49, .inl mm.m)), (a3, .inl (cI, 49, .inl gg.im)), (a4, .inl (cI, 49, .inl mm.ws)), (a5, .inl (cI, 96, .inl gg.lt)), (a6, .inl (cI, 16, .inl gg.rw)), (a7, .inl (cI, 7, .inl gg.rf)), (a8, .inl (cI, 3, .inl mm.nb))] sz)) 0 0 (va_A [(a0, .inr (3, [.ref a1, .ref a2, .ref a3, .ref a4, .int gg.hs, .ref a5, .ref a6, .ref a7, .int (nI gg.L), .int (nI gg.M), .int mm.pl, .ref a8, .int mm.sd])), (a1, .inl (cI, 49, .inl gg.r)), (a2, .inl (cI, 49, .inl mm.m)), (a3, .inl (cI, 49, .inl gg.im)), (a4, .inl (cI, 49, .inl mm.ws)), (a5, .inl (cI, 96, .inl gg.lt)), (a6, .inl (cI, 16, .inl gg.rw)), (a7, .inl (cI, 7, .inl gg.rf)), (a8, .inl (cI, 3, .inl mm.nb))] sz) := by
  refine st_rwi (cc := cX4_close) (maxL := 6) (rt := .int) (by decide) rfl (Nat.le_of_ble_eq_true rfl) (fun _ _ _ => rfl) ?_
  intro p e s m below meth c Q ls A hx hb hml hts hown hP hK hD hA hS hl hret
  replace hown : s.vm.findClass RX4 = some m.cls := hown
  replace hl : lv_has ls 6 [(0, .ref a0)] := hl
  obtain ⟨H, hH⟩ : ∃ z, z = s.heap := ⟨_, rfl⟩
  obtain ⟨locs, hlo⟩ : ∃ z : List Loc, z = [] := ⟨_, rfl⟩
  replace hP : va_P D vwCl [(a0, .inr (3, [.ref a1, .ref a2, .ref a3, .ref a4, .int gg.hs, .ref a5, .ref a6, .ref a7, .int (nI gg.L), .int (nI gg.M), .int mm.pl, .ref a8, .int mm.sd])), (a1, .inl (cI, 49, .inl gg.r)), (a2, .inl (cI, 49, .inl mm.m)), (a3, .inl (cI, 49, .inl gg.im)), (a4, .inl (cI, 49, .inl mm.ws)), (a5, .inl (cI, 96, .inl gg.lt)), (a6, .inl (cI, 16, .inl gg.rw)), (a7, .inl (cI, 7, .inl gg.rf)), (a8, .inl (cI, 3, .inl mm.nb))] H := by rw [hH]; exact hP
  replace hS : va_S A s.heap H locs := by rw [hH, hlo]; exact hS
  show W p l e ({ frames := 8, cells := 0, slots := 0, locals := 179 }) s m [.ref a0].toArray below meth c s.heap [] 0 0 Q (F0 m 0 ls [])
  rw [← hlo]
  suffices hgo : W p l e ({ frames := 8, cells := 0, slots := 0, locals := 179 }) s m [.ref a0].toArray below meth c H locs 0 0 Q (F0 m 0 ls []) by rw [hH] at hgo; exact hgo
  clear hH hlo
  have hi_X4 : ∀ w ∈ wsX40, w ∈ wsX4_close := fun w h => List.mem_cons_of_mem _ (List.mem_append_right _ (h))
  have hk_103 := hts (.fieldLink RX4 103 "NestsOfTalkModel" "place" "I") (List.mem_of_getElem? (i := 1) rfl)
  have hk_99 := hts (.fieldLink RX4 99 "NestsOfTalkModel" "letterMany" "I") (List.mem_of_getElem? (i := 2) rfl)
  have hk_9 := hts (.fieldLink RX4 9 "NestsOfTalkModel" "s" "[I") (List.mem_of_getElem? (i := 3) rfl)
  have hk_19 := hts (.fieldLink RX4 19 "NestsOfTalkModel" "was" "[I") (List.mem_of_getElem? (i := 4) rfl)
  have hI := hG.inv
  have hn9 := hI.le
  have hL96 := hG.L96
  have hM16 := hG.M16
  refine lv_aload_n hx hb dX4_close_0 rfl (lv_at hl 0 rfl) ?_
  refine lv_iconst (v := 0) hx hb dX4_close_1 (by decide) ?_
  refine va_put (D := D) (ci := 3) (v := .int 0) (ty := .int) (C := RX4) (T := TX4) (N := 13) hx hb hts hi_X4 tyX4 tyX4_ok nmX4 hown hK.1 hP hD hS 0 rfl rfl 10 (by decide) hk_103 (fun _ h9 => h9) rfl pd_I rfl rfl (Nat.le_of_ble_eq_true rfl) dX4_close_2 (fun H locs hP hD hS => ?_)
  have hP : va_P D vwCl [(a0, .inr (3, [.ref a1, .ref a2, .ref a3, .ref a4, .int gg.hs, .ref a5, .ref a6, .ref a7, .int (nI gg.L), .int (nI gg.M), .int 0, .ref a8, .int mm.sd])), (a1, .inl (cI, 49, .inl gg.r)), (a2, .inl (cI, 49, .inl mm.m)), (a3, .inl (cI, 49, .inl gg.im)), (a4, .inl (cI, 49, .inl mm.ws)), (a5, .inl (cI, 96, .inl gg.lt)), (a6, .inl (cI, 16, .inl gg.rw)), (a7, .inl (cI, 7, .inl gg.rf)), (a8, .inl (cI, 3, .inl mm.nb))] H := hP
  have hD : va_D A [(a0, .inr (3, [.ref a1, .ref a2, .ref a3, .ref a4, .int gg.hs, .ref a5, .ref a6, .ref a7, .int (nI gg.L), .int (nI gg.M), .int 0, .ref a8, .int mm.sd])), (a1, .inl (cI, 49, .inl gg.r)), (a2, .inl (cI, 49, .inl mm.m)), (a3, .inl (cI, 49, .inl gg.im)), (a4, .inl (cI, 49, .inl mm.ws)), (a5, .inl (cI, 96, .inl gg.lt)), (a6, .inl (cI, 16, .inl gg.rw)), (a7, .inl (cI, 7, .inl gg.rf)), (a8, .inl (cI, 3, .inl mm.nb))] := hD
  refine lv_iconst (v := 0) hx hb dX4_close_5 (by decide) ?_
  refine lv_istore_n (lv' := [(1, .int 0), (0, .ref a0)]) hx hb dX4_close_6 rfl hl (by decide) rfl (fun ls hl => ?_)
  refine lv_bipush (v := (-9)) hx hb dX4_close_7 (by decide) ?_
  refine lv_istore_n (lv' := [(2, .int (-9)), (1, .int 0), (0, .ref a0)]) hx hb dX4_close_9 rfl hl (by decide) rfl (fun ls hl => ?_)
  have lp_10_1 : ∀ (fu : Nat) (m1 : Nat) (q0 : Nat) (fu9 : Nat) (x2 : Int32) (x1 : Int32) (fn : RR) (ls : Array Slot) (H : Heap) (locs : List Loc), 300 - q0 < fu → (x1 = nI m1) → (q0 = 0 ∨ q0 < gg.L) → (x2 = -9) → (q0 + fu9 = 98 + m1 * 0 ∨ 98 ≤ q0 + fu9) → (rdA (hrF gg.lt gg.L) gg.L fu9 q0 m1 = rdA (hrF gg.lt gg.L) gg.L 98 0 0) → va_P D vwCl [(a0, .inr (3, [.ref a1, .ref a2, .ref a3, .ref a4, .int gg.hs, .ref a5, .ref a6, .ref a7, .int (nI gg.L), .int (nI gg.M), .int (nI q0), .ref a8, .int mm.sd])), (a1, .inl (cI, 49, .inl gg.r)), (a2, .inl (cI, 49, .inl mm.m)), (a3, .inl (cI, 49, .inl gg.im)), (a4, .inl (cI, 49, .inl mm.ws)), (a5, .inl (cI, 96, .inl gg.lt)), (a6, .inl (cI, 16, .inl gg.rw)), (a7, .inl (cI, 7, .inl gg.rf)), (a8, .inl (cI, 3, .inl fn))] H → va_D A [(a0, .inr (3, [.ref a1, .ref a2, .ref a3, .ref a4, .int gg.hs, .ref a5, .ref a6, .ref a7, .int (nI gg.L), .int (nI gg.M), .int (nI q0), .ref a8, .int mm.sd])), (a1, .inl (cI, 49, .inl gg.r)), (a2, .inl (cI, 49, .inl mm.m)), (a3, .inl (cI, 49, .inl gg.im)), (a4, .inl (cI, 49, .inl mm.ws)), (a5, .inl (cI, 96, .inl gg.lt)), (a6, .inl (cI, 16, .inl gg.rw)), (a7, .inl (cI, 7, .inl gg.rf)), (a8, .inl (cI, 3, .inl fn))] → va_S A s.heap H locs → lv_has ls 6 [(2, .int x2), (1, .int x1), (0, .ref a0)] → W p l e ({ frames := 8, cells := 0, slots := 0, locals := 179 }) s m [.ref a0].toArray below meth c H locs 0 0 Q (F0 m 10 ls []) := by
    intro fu
    induction fu with
    | zero =>
      intro m1 q0 fu9 x2 x1 fn ls H locs hfu
      exact absurd hfu (Nat.not_lt_zero _)
    | succ fu ih_1 =>
      intro m1 q0 fu9 x2 x1 fn ls H locs hfu hx1 hq h2 hfu9 hR hP hD hS hl
      refine lv_aload_n hx hb dX4_close_10 rfl (lv_at hl 2 rfl) ?_
      refine xw_Vi (As := []) (rest := []) (Wn := fun u => [(a0, .inr (3, [.ref a1, .ref a2, .ref a3, .ref a4, .int gg.hs, .ref a5, .ref a6, .ref a7, .int (nI gg.L), .int (nI gg.M), .int (nI u.1), .ref a8, .int mm.sd])), (a1, .inl (cI, 49, .inl gg.r)), (a2, .inl (cI, 49, .inl mm.m)), (a3, .inl (cI, 49, .inl gg.im)), (a4, .inl (cI, 49, .inl mm.ws)), (a5, .inl (cI, 96, .inl gg.lt)), (a6, .inl (cI, 16, .inl gg.rw)), (a7, .inl (cI, 7, .inl gg.rf)), (a8, .inl (cI, 3, .inl u.2))]) (Wr := [(a1, .inl (cI, 49, .inl gg.r)), (a2, .inl (cI, 49, .inl mm.m)), (a3, .inl (cI, 49, .inl gg.im)), (a4, .inl (cI, 49, .inl mm.ws)), (a6, .inl (cI, 16, .inl gg.rw)), (a7, .inl (cI, 7, .inl gg.rf))]) ⟨hx, hb, hml, hown, hts⟩ (kX4_readsStatement l D cI H.size a0 a1 a2 a3 a4 a5 a6 a7 a8 gg (mm.m, mm.ws, fn, (nI q0), mm.sd) hL96 q0 (by omega) fn) (cwV 0 hts gX4_close_X4_readsStatement rfl rfl rfl hv_X4_readsStatement ⟨Nat.le_of_ble_eq_true rfl, Nat.le_of_ble_eq_true rfl⟩) hK hP hD hS hA [0, 5, 8] [1, 2, 3, 4, 6, 7] [6, 0, 1, 2, 3, 7, 4, 5, 8] rfl rfl (by decide) (by decide) (by decide) (by decide) (fun u => rfl) 0 rfl rfl rfl hl.1 rfl (Nat.le_of_ble_eq_true rfl) dX4_close_11 ⟨Nat.zero_le _, Nat.zero_le _⟩ (fun r_2 u_2 H locs hw_2 hP hD hS => ?_)
      refine lv_if_ne (tgt := 26) hx hb dX4_close_14 (by decide) (fun c_3 => ?_) (fun c_3 => ?_)
      · skip
        have hs1 : (rsF (hrF gg.lt gg.L) q0).1 = true := bool_t hw_2.1 c_3
        have hs2 : u_2.1 = (rsF (hrF gg.lt gg.L) q0).2 := hw_2.2.1
        have hs3 := rsF_le2 (hrF gg.lt gg.L) q0
        have hs4 := rsF_le gg.lt gg.L q0 hs1
        obtain ⟨x_4, ex_4⟩ : ∃ z : Int32, z = x1 + 1 := ⟨_, rfl⟩
        refine lv_iinc (v := x_4) (lv' := [(1, .int x_4), (2, .int x2), (0, .ref a0)]) hx hb dX4_close_26 hl (k := 1) rfl (by rw [ex_4]; rfl) (by decide) rfl (fun ls hl => ?_)
        refine lv_iload_n hx hb dX4_close_29 rfl (lv_at hl 1 rfl) ?_
        refine lv_bipush (v := (-9)) hx hb dX4_close_30 (by decide) ?_
        refine lv_icmp_ne (tgt := 46) hx hb dX4_close_32 (by decide) (fun c_5 => ?_) (fun c_5 => ?_)
        · skip
          exact absurd h2 c_5
        refine lv_aload_n hx hb dX4_close_35 rfl (lv_at hl 2 rfl) ?_
        refine va_get (D := D) (ci := 3) (v := .int (nI u_2.1)) (C := RX4) (T := TX4) (N := 13) hx hb hts hi_X4 hown hK.1 hP 0 rfl rfl 10 (by decide) hk_103 (fun _ h9 => h9) rfl dX4_close_36 ?_
        refine lv_aload_n hx hb dX4_close_39 rfl (lv_at hl 2 rfl) ?_
        refine va_get (D := D) (ci := 3) (v := .int (nI gg.L)) (C := RX4) (T := TX4) (N := 13) hx hb hts hi_X4 hown hK.1 hP 0 rfl rfl 8 (by decide) hk_99 (fun _ h9 => h9) rfl dX4_close_40 ?_
        refine lv_icmp_lt (tgt := 10) hx hb dX4_close_43 (by decide) (fun c_6 => ?_) (fun c_6 => ?_)
        · skip
          have n_6 : u_2.1 < gg.L := (ni_lt (a := u_2.1) (b := gg.L) rfl rfl (by omega) (by omega)).mp c_6
          have d_6 : ¬ (nI gg.L) ≤ (nI u_2.1) := Int32.not_le.2 c_6
          have m_6 : ¬ gg.L ≤ u_2.1 := by omega
          exact ih_1 (m1 + 1) u_2.1 (fu9 - 1) x2 x_4 u_2.2 _ _ _ (by omega) (ni_add (a := m1) (b := 1) ex_4 hx1 (rfl : (1 : Int32) = nI 1)) (by omega) h2 (by omega) (by obtain ⟨fz, hfz⟩ : ∃ z, fu9 = z + 1 := ⟨fu9 - 1, by omega⟩; rw [hfz, Nat.add_sub_cancel, ← hR, hfz, rdA, if_neg (by rw [hs1]; decide), if_pos (by omega), ← hs2]) hP hD hS (lv_sub hl [1, 0, 2] rfl)
        have n_6 : ¬ u_2.1 < gg.L := fun q => c_6 ((ni_lt (a := u_2.1) (b := gg.L) rfl rfl (by omega) (by omega)).mpr q)
        have d_6 : (nI gg.L) ≤ (nI u_2.1) := Int32.not_lt.1 c_6
        have m_6 : gg.L ≤ u_2.1 := by omega
        obtain ⟨fz, hfz⟩ : ∃ z, fu9 = z + 1 := ⟨fu9 - 1, by omega⟩
        have hRa : rdA (hrF gg.lt gg.L) gg.L 98 0 0 = (-9, m1 + 1) := by rw [← hR, hfz, rdA, if_neg (by rw [hs1]; decide), if_neg (by omega)]
        refine lv_aload_n hx hb dX4_close_46 rfl (lv_at hl 2 rfl) ?_
        refine va_get (D := D) (ci := 3) (v := .ref a1) (C := RX4) (T := TX4) (N := 13) hx hb hts hi_X4 hown hK.1 hP 0 rfl rfl 0 (by decide) hk_9 (fun _ h9 => h9) rfl dX4_close_47 ?_
        refine lv_aload_n hx hb dX4_close_50 rfl (lv_at hl 2 rfl) ?_
        refine va_get (D := D) (ci := 3) (v := .ref a4) (C := RX4) (T := TX4) (N := 13) hx hb hts hi_X4 hown hK.1 hP 0 rfl rfl 3 (by decide) hk_19 (fun _ h9 => h9) rfl dX4_close_51 ?_
        refine xw_Sv (As := [.ref a1, .ref a4]) (rest := []) (Wn := fun u => [(a0, .inr (3, [.ref a1, .ref a2, .ref a3, .ref a4, .int gg.hs, .ref a5, .ref a6, .ref a7, .int (nI gg.L), .int (nI gg.M), .int (nI u_2.1), .ref a8, .int mm.sd])), (a1, .inl (cI, 49, .inl gg.r)), (a2, .inl (cI, 49, .inl mm.m)), (a3, .inl (cI, 49, .inl gg.im)), (a4, .inl (cI, 49, .inl gg.r)), (a5, .inl (cI, 96, .inl gg.lt)), (a6, .inl (cI, 16, .inl gg.rw)), (a7, .inl (cI, 7, .inl gg.rf)), (a8, .inl (cI, 3, .inl u_2.2))]) (Wr := [(a0, .inr (3, [.ref a1, .ref a2, .ref a3, .ref a4, .int gg.hs, .ref a5, .ref a6, .ref a7, .int (nI gg.L), .int (nI gg.M), .int (nI u_2.1), .ref a8, .int mm.sd])), (a2, .inl (cI, 49, .inl mm.m)), (a3, .inl (cI, 49, .inl gg.im)), (a5, .inl (cI, 96, .inl gg.lt)), (a6, .inl (cI, 16, .inl gg.rw)), (a7, .inl (cI, 7, .inl gg.rf)), (a8, .inl (cI, 3, .inl u_2.2))]) ⟨hx, hb, hml, hown, hts⟩ (kX4_copies l D cI H.size a1 a4 gg.r mm.ws) (va_cwS 2 hts gX4_close_X4_copies rfl rfl rfl hs_X4_copies ⟨Nat.le_of_ble_eq_true rfl, Nat.le_of_ble_eq_true rfl⟩) hK hP hD hS hA [1, 4] [0, 2, 3, 5, 6, 7, 8] [0, 7, 1, 2, 8, 3, 4, 5, 6] rfl rfl (by decide) (by decide) (by decide) (by decide) (fun u => rfl) rfl hl.1 rfl (Nat.le_of_ble_eq_true rfl) dX4_close_54 ⟨Nat.zero_le _, Nat.zero_le _⟩ (fun u_7 H locs hw_7 hP hD hS => ?_)
        refine lv_aload_n hx hb dX4_close_57 rfl (lv_at hl 2 rfl) ?_
        refine lv_iconst (v := 0) hx hb dX4_close_58 (by decide) ?_
        refine va_put (D := D) (ci := 3) (v := .int 0) (ty := .int) (C := RX4) (T := TX4) (N := 13) hx hb hts hi_X4 tyX4 tyX4_ok nmX4 hown hK.1 hP hD hS 0 rfl rfl 10 (by decide) hk_103 (fun _ h9 => h9) rfl pd_I rfl rfl (Nat.le_of_ble_eq_true rfl) dX4_close_59 (fun H locs hP hD hS => ?_)
        have hP : va_P D vwCl [(a0, .inr (3, [.ref a1, .ref a2, .ref a3, .ref a4, .int gg.hs, .ref a5, .ref a6, .ref a7, .int (nI gg.L), .int (nI gg.M), .int 0, .ref a8, .int mm.sd])), (a1, .inl (cI, 49, .inl gg.r)), (a2, .inl (cI, 49, .inl mm.m)), (a3, .inl (cI, 49, .inl gg.im)), (a4, .inl (cI, 49, .inl gg.r)), (a5, .inl (cI, 96, .inl gg.lt)), (a6, .inl (cI, 16, .inl gg.rw)), (a7, .inl (cI, 7, .inl gg.rf)), (a8, .inl (cI, 3, .inl u_2.2))] H := hP
        have hD : va_D A [(a0, .inr (3, [.ref a1, .ref a2, .ref a3, .ref a4, .int gg.hs, .ref a5, .ref a6, .ref a7, .int (nI gg.L), .int (nI gg.M), .int 0, .ref a8, .int mm.sd])), (a1, .inl (cI, 49, .inl gg.r)), (a2, .inl (cI, 49, .inl mm.m)), (a3, .inl (cI, 49, .inl gg.im)), (a4, .inl (cI, 49, .inl gg.r)), (a5, .inl (cI, 96, .inl gg.lt)), (a6, .inl (cI, 16, .inl gg.rw)), (a7, .inl (cI, 7, .inl gg.rf)), (a8, .inl (cI, 3, .inl u_2.2))] := hD
        have lp_62_8 : ∀ (fu : Nat) (q1 : Nat) (n9 : Nat) (fu8 : Nat) (m9 : Nat) (x2 : Int32) (fn2 : RR) (f : RR) (ls : Array Slot) (H : Heap) (locs : List Loc), 300 - q1 < fu → (q1 ≤ gg.L) → (x2 = -9) → (98 ≤ q1 + fu8) → (Inv n9 f) → ((rdA (hrF gg.lt gg.L) gg.L fu8 q1 m9).1 = -9 ∨ gg.L ≤ q1) → (tlA (hrF gg.lt gg.L) gg.L gg.n gg.r fu8 q1 n9 f = tlA (hrF gg.lt gg.L) gg.L gg.n gg.r 98 0 gg.n gg.r) → va_P D vwCl [(a0, .inr (3, [.ref a1, .ref a2, .ref a3, .ref a4, .int gg.hs, .ref a5, .ref a6, .ref a7, .int (nI gg.L), .int (nI gg.M), .int (nI q1), .ref a8, .int mm.sd])), (a1, .inl (cI, 49, .inl f)), (a2, .inl (cI, 49, .inl mm.m)), (a3, .inl (cI, 49, .inl gg.im)), (a4, .inl (cI, 49, .inl gg.r)), (a5, .inl (cI, 96, .inl gg.lt)), (a6, .inl (cI, 16, .inl gg.rw)), (a7, .inl (cI, 7, .inl gg.rf)), (a8, .inl (cI, 3, .inl fn2))] H → va_D A [(a0, .inr (3, [.ref a1, .ref a2, .ref a3, .ref a4, .int gg.hs, .ref a5, .ref a6, .ref a7, .int (nI gg.L), .int (nI gg.M), .int (nI q1), .ref a8, .int mm.sd])), (a1, .inl (cI, 49, .inl f)), (a2, .inl (cI, 49, .inl mm.m)), (a3, .inl (cI, 49, .inl gg.im)), (a4, .inl (cI, 49, .inl gg.r)), (a5, .inl (cI, 96, .inl gg.lt)), (a6, .inl (cI, 16, .inl gg.rw)), (a7, .inl (cI, 7, .inl gg.rf)), (a8, .inl (cI, 3, .inl fn2))] → va_S A s.heap H locs → lv_has ls 6 [(1, .int x_4), (2, .int x2), (0, .ref a0)] → W p l e ({ frames := 8, cells := 0, slots := 0, locals := 179 }) s m [.ref a0].toArray below meth c H locs 0 0 Q (F0 m 62 ls []) := by
          intro fu
          induction fu with
          | zero =>
            intro q1 n9 fu8 m9 x2 fn2 f ls H locs hfu
            exact absurd hfu (Nat.not_lt_zero _)
          | succ fu ih_8 =>
            intro q1 n9 fu8 m9 x2 fn2 f ls H locs hfu hq1 h2b hfu8 hI9 hok hT hP hD hS hl
            refine lv_iload_n hx hb dX4_close_62 rfl (lv_at hl 1 rfl) ?_
            refine lv_bipush (v := (-9)) hx hb dX4_close_63 (by decide) ?_
            refine lv_icmp_ne (tgt := 128) hx hb dX4_close_65 (by decide) (fun c_9 => ?_) (fun c_9 => ?_)
            · skip
              exact absurd h2b c_9
            refine lv_aload_n hx hb dX4_close_68 rfl (lv_at hl 2 rfl) ?_
            refine va_get (D := D) (ci := 3) (v := .int (nI q1)) (C := RX4) (T := TX4) (N := 13) hx hb hts hi_X4 hown hK.1 hP 0 rfl rfl 10 (by decide) hk_103 (fun _ h9 => h9) rfl dX4_close_69 ?_
            refine lv_aload_n hx hb dX4_close_72 rfl (lv_at hl 2 rfl) ?_
            refine va_get (D := D) (ci := 3) (v := .int (nI gg.L)) (C := RX4) (T := TX4) (N := 13) hx hb hts hi_X4 hown hK.1 hP 0 rfl rfl 8 (by decide) hk_99 (fun _ h9 => h9) rfl dX4_close_73 ?_
            refine lv_icmp_ge (tgt := 128) hx hb dX4_close_76 (by decide) (fun c_10 => ?_) (fun c_10 => ?_)
            · skip
              have n_10 : gg.L ≤ q1 := (ni_le (a := gg.L) (b := q1) rfl rfl (by omega) (by omega)).mp c_10
              have d_10 : ¬ (nI q1) < (nI gg.L) := Int32.not_lt.2 c_10
              have m_10 : ¬ q1 < gg.L := by omega
              refine lv_aload_n hx hb dX4_close_128 rfl (lv_at hl 2 rfl) ?_
              refine lv_iconst (v := 0) hx hb dX4_close_129 (by decide) ?_
              refine va_put (D := D) (ci := 3) (v := .int 0) (ty := .int) (C := RX4) (T := TX4) (N := 13) hx hb hts hi_X4 tyX4 tyX4_ok nmX4 hown hK.1 hP hD hS 0 rfl rfl 8 (by decide) hk_99 (fun _ h9 => h9) rfl pd_I rfl rfl (Nat.le_of_ble_eq_true rfl) dX4_close_130 (fun H locs hP hD hS => ?_)
              have hP : va_P D vwCl [(a0, .inr (3, [.ref a1, .ref a2, .ref a3, .ref a4, .int gg.hs, .ref a5, .ref a6, .ref a7, .int 0, .int (nI gg.M), .int (nI q1), .ref a8, .int mm.sd])), (a1, .inl (cI, 49, .inl f)), (a2, .inl (cI, 49, .inl mm.m)), (a3, .inl (cI, 49, .inl gg.im)), (a4, .inl (cI, 49, .inl gg.r)), (a5, .inl (cI, 96, .inl gg.lt)), (a6, .inl (cI, 16, .inl gg.rw)), (a7, .inl (cI, 7, .inl gg.rf)), (a8, .inl (cI, 3, .inl fn2))] H := hP
              have hD : va_D A [(a0, .inr (3, [.ref a1, .ref a2, .ref a3, .ref a4, .int gg.hs, .ref a5, .ref a6, .ref a7, .int 0, .int (nI gg.M), .int (nI q1), .ref a8, .int mm.sd])), (a1, .inl (cI, 49, .inl f)), (a2, .inl (cI, 49, .inl mm.m)), (a3, .inl (cI, 49, .inl gg.im)), (a4, .inl (cI, 49, .inl gg.r)), (a5, .inl (cI, 96, .inl gg.lt)), (a6, .inl (cI, 16, .inl gg.rw)), (a7, .inl (cI, 7, .inl gg.rf)), (a8, .inl (cI, 3, .inl fn2))] := hD
              refine lv_iload_n hx hb dX4_close_133 rfl (lv_at hl 1 rfl) ?_
              refine lv_bipush (v := (-9)) hx hb dX4_close_134 (by decide) ?_
              refine lv_icmp_ne (tgt := 143) hx hb dX4_close_136 (by decide) (fun c_11 => ?_) (fun c_11 => ?_)
              · skip
                exact absurd c_9 c_11
              refine lv_iload_n hx hb dX4_close_139 rfl (lv_at hl 0 rfl) ?_
              refine lv_goto (tgt := 144) hx hb dX4_close_140 (by decide) ?_
              exact hret 144 _ x_4 ((n9, f, gg.m, gg.im, gg.hs, gg.lt, 0, gg.rw, gg.M, gg.rf), (mm.m, gg.r, fn2, (nI q1), mm.sd)) _ _ dX4_close_144 (by have hT3 : tlA (hrF gg.lt gg.L) gg.L gg.n gg.r 98 0 gg.n gg.r = (-9, n9, f) := (by obtain ⟨f8, hf8⟩ : ∃ z, fu8 = z + 1 := ⟨fu8 - 1, by omega⟩; rw [← hT, hf8, tlA, if_neg (by omega)]); simp [sp_close, hRa, hT3]; exact (ni_add (a := m1) (b := 1) ex_4 hx1 (rfl : (1 : Int32) = nI 1))) hP hD hS
            have n_10 : ¬ gg.L ≤ q1 := fun q => c_10 ((ni_le (a := gg.L) (b := q1) rfl rfl (by omega) (by omega)).mpr q)
            have d_10 : (nI q1) < (nI gg.L) := Int32.not_le.1 c_10
            have m_10 : q1 < gg.L := by omega
            refine lv_aload_n hx hb dX4_close_79 rfl (lv_at hl 2 rfl) ?_
            refine va_get (D := D) (ci := 3) (v := .int (nI q1)) (C := RX4) (T := TX4) (N := 13) hx hb hts hi_X4 hown hK.1 hP 0 rfl rfl 10 (by decide) hk_103 (fun _ h9 => h9) rfl dX4_close_80 ?_
            refine lv_topi (fun x_12 ex_12 => ?_)
            refine lv_istore_n (lv' := [(3, .int x_12), (1, .int x_4), (2, .int x2), (0, .ref a0)]) hx hb dX4_close_83 rfl hl (by decide) rfl (fun ls hl => ?_)
            refine lv_aload_n hx hb dX4_close_84 rfl (lv_at hl 3 rfl) ?_
            refine xc_Vi (As := []) (rest := []) ⟨hx, hb, hml, hown, hts⟩ (kX4_here l D cI a0 a1 a2 a3 a4 a5 a6 a7 a8 (n9, f, gg.m, gg.im, gg.hs, gg.lt, gg.L, gg.rw, gg.M, gg.rf) (mm.m, gg.r, fn2, (nI q1), mm.sd) hL96 q1 (by omega)) (cwV 0 hts gX4_close_X4_here rfl rfl rfl hv_X4_here ⟨Nat.le_of_ble_eq_true rfl, Nat.le_of_ble_eq_true rfl⟩) hK hP [0, 5] rfl 0 rfl rfl rfl hl.1 rfl (Nat.le_of_ble_eq_true rfl) dX4_close_85 ⟨Nat.zero_le _, Nat.zero_le _⟩ (fun r_13 hr_13 => ?_)
            refine lv_istore (lv' := [(4, .int r_13), (3, .int x_12), (1, .int x_4), (2, .int x2), (0, .ref a0)]) hx hb dX4_close_88 hl (by decide) rfl (fun ls hl => ?_)
            refine lv_aload_n hx hb dX4_close_90 rfl (lv_at hl 4 rfl) ?_
            refine xw_Vi (As := []) (rest := []) (Wn := fun u => [(a0, .inr (3, [.ref a1, .ref a2, .ref a3, .ref a4, .int gg.hs, .ref a5, .ref a6, .ref a7, .int (nI gg.L), .int (nI gg.M), .int (nI u.1), .ref a8, .int mm.sd])), (a1, .inl (cI, 49, .inl f)), (a2, .inl (cI, 49, .inl mm.m)), (a3, .inl (cI, 49, .inl gg.im)), (a4, .inl (cI, 49, .inl gg.r)), (a5, .inl (cI, 96, .inl gg.lt)), (a6, .inl (cI, 16, .inl gg.rw)), (a7, .inl (cI, 7, .inl gg.rf)), (a8, .inl (cI, 3, .inl u.2))]) (Wr := [(a1, .inl (cI, 49, .inl f)), (a2, .inl (cI, 49, .inl mm.m)), (a3, .inl (cI, 49, .inl gg.im)), (a4, .inl (cI, 49, .inl gg.r)), (a6, .inl (cI, 16, .inl gg.rw)), (a7, .inl (cI, 7, .inl gg.rf))]) ⟨hx, hb, hml, hown, hts⟩ (kX4_readsStatement l D cI H.size a0 a1 a2 a3 a4 a5 a6 a7 a8 (n9, f, gg.m, gg.im, gg.hs, gg.lt, gg.L, gg.rw, gg.M, gg.rf) (mm.m, gg.r, fn2, (nI q1), mm.sd) hL96 q1 (by omega) fn2) (cwV 0 hts gX4_close_X4_readsStatement rfl rfl rfl hv_X4_readsStatement ⟨Nat.le_of_ble_eq_true rfl, Nat.le_of_ble_eq_true rfl⟩) hK hP hD hS hA [0, 5, 8] [1, 2, 3, 4, 6, 7] [6, 0, 1, 2, 3, 7, 4, 5, 8] rfl rfl (by decide) (by decide) (by decide) (by decide) (fun u => rfl) 0 rfl rfl rfl hl.1 rfl (Nat.le_of_ble_eq_true rfl) dX4_close_91 ⟨Nat.zero_le _, Nat.zero_le _⟩ (fun r_14 u_14 H locs hw_14 hP hD hS => ?_)
            obtain ⟨f8, hf8⟩ : ∃ z, fu8 = z + 1 := ⟨fu8 - 1, by omega⟩
            subst hf8
            have ht1 : (rsF (hrF gg.lt gg.L) q1).1 = true := by
              cases hz : (rsF (hrF gg.lt gg.L) q1).1 with
              | true => rfl
              | false => exfalso; rw [rdA, if_pos hz] at hok; rcases hok with hok | hok; exact flt_ne (q := (rsF (hrF gg.lt gg.L) q1).2) (Or.inl rfl) (by have := rsF_le2 (hrF gg.lt gg.L) q1; omega) hok; omega
            have ht2 : u_14.1 = (rsF (hrF gg.lt gg.L) q1).2 := hw_14.2.1
            have ht3 : nbO (hrF gg.lt gg.L) q1 u_14.2 := hw_14.2.2 ht1
            have ht4 := rsF_le gg.lt gg.L q1 ht1
            refine lv_istore (lv' := [(5, .int r_14), (4, .int r_13), (3, .int x_12), (1, .int x_4), (2, .int x2), (0, .ref a0)]) hx hb dX4_close_94 hl (by decide) rfl (fun ls hl => ?_)
            refine lv_aload_n hx hb dX4_close_96 rfl (lv_at hl 5 rfl) ?_
            refine lv_iload hx hb dX4_close_97 (lv_at hl 1 rfl) ?_
            refine xw_Vi (As := [.int r_13]) (rest := []) (Wn := fun u => [(a0, .inr (3, [.ref a1, .ref a2, .ref a3, .ref a4, .int gg.hs, .ref a5, .ref a6, .ref a7, .int (nI gg.L), .int (nI gg.M), .int (nI u_14.1), .ref a8, .int mm.sd])), (a1, .inl (cI, 49, .inl u)), (a2, .inl (cI, 49, .inl mm.m)), (a3, .inl (cI, 49, .inl gg.im)), (a4, .inl (cI, 49, .inl gg.r)), (a5, .inl (cI, 96, .inl gg.lt)), (a6, .inl (cI, 16, .inl gg.rw)), (a7, .inl (cI, 7, .inl gg.rf)), (a8, .inl (cI, 3, .inl u_14.2))]) (Wr := []) ⟨hx, hb, hml, hown, hts⟩ (kX4_isDone l D cI H.size r_13 a0 a1 a2 a3 a4 a5 a6 a7 a8 (n9, f, gg.m, gg.im, gg.hs, gg.lt, gg.L, gg.rw, gg.M, gg.rf) (mm.m, gg.r, u_14.2, (nI u_14.1), mm.sd) n9 hI9 (fun q => by rw [hr_13] at q; obtain ⟨k, hk, e⟩ := rsF_A ht1 q; exact ⟨k, hk, ht3.1.trans e⟩) (fun q => by rw [hr_13] at q; obtain ⟨k, hk, e⟩ := rsF_B ht1 q; exact ⟨k, hk, (ht3.2.1 (q.elim Or.inl (fun z => Or.inr (Or.inl z)))).trans e⟩)) (cwV 1 hts gX4_close_X4_isDone rfl rfl rfl hv_X4_isDone ⟨Nat.le_of_ble_eq_true rfl, Nat.le_of_ble_eq_true rfl⟩) hK hP hD hS hA [0, 1, 2, 3, 4, 5, 6, 7, 8] [] [0, 1, 2, 3, 4, 5, 6, 7, 8] rfl rfl (by decide) (by decide) (by decide) (by decide) (fun u => rfl) 0 rfl rfl rfl hl.1 rfl (Nat.le_of_ble_eq_true rfl) dX4_close_99 ⟨Nat.zero_le _, Nat.zero_le _⟩ (fun r_15 u_15 H locs hw_15 hP hD hS => ?_)
            refine lv_if_eq (tgt := 108) hx hb dX4_close_102 (by decide) (fun c_16 => ?_) (fun c_16 => ?_)
            · skip
              have hd0 : dnF n9 f r_13 (u_14.2 0) (u_14.2 1) (u_14.2 2) = dnF n9 f ((hrF gg.lt gg.L) q1) (nbA (hrF gg.lt gg.L) q1) (nbB (hrF gg.lt gg.L) q1) (nbC (hrF gg.lt gg.L) q1) := by rw [hr_13]; exact dnF_nb ht3
              obtain ⟨hd1, hd2⟩ : r_15 = (if (dnF n9 f r_13 (u_14.2 0) (u_14.2 1) (u_14.2 2)).1 = true then 1 else 0) ∧ u_15 = (dnF n9 f r_13 (u_14.2 0) (u_14.2 1) (u_14.2 2)).2.2 := hw_15
              rw [hd0] at hd1 hd2
              have hd3 := bool_f hd1 c_16
              have hT2 : tlA (hrF gg.lt gg.L) gg.L gg.n gg.r 98 0 gg.n gg.r = (-2000 - nI q1, gg.n, gg.r) := by
                rw [← hT, tlA, if_pos (by omega), if_neg (by rw [hd3]; decide)]
              refine lv_sipush (v := (-2000)) hx hb dX4_close_108 (by decide) ?_
              refine lv_iload_n hx hb dX4_close_111 rfl (lv_at hl 2 rfl) ?_
              refine lv_isub hx hb dX4_close_112 ?_
              refine lv_topi (fun x_17 ex_17 => ?_)
              refine lv_istore_n (lv' := [(2, .int x_17), (5, .int r_14), (4, .int r_13), (3, .int x_12), (1, .int x_4), (0, .ref a0)]) hx hb dX4_close_113 rfl hl (by decide) rfl (fun ls hl => ?_)
              refine lv_aload_n hx hb dX4_close_114 rfl (lv_at hl 5 rfl) ?_
              refine va_get (D := D) (ci := 3) (v := .ref a4) (C := RX4) (T := TX4) (N := 13) hx hb hts hi_X4 hown hK.1 hP 0 rfl rfl 3 (by decide) hk_19 (fun _ h9 => h9) rfl dX4_close_115 ?_
              refine lv_aload_n hx hb dX4_close_118 rfl (lv_at hl 5 rfl) ?_
              refine va_get (D := D) (ci := 3) (v := .ref a1) (C := RX4) (T := TX4) (N := 13) hx hb hts hi_X4 hown hK.1 hP 0 rfl rfl 0 (by decide) hk_9 (fun _ h9 => h9) rfl dX4_close_119 ?_
              refine xw_Sv (As := [.ref a4, .ref a1]) (rest := []) (Wn := fun u => [(a0, .inr (3, [.ref a1, .ref a2, .ref a3, .ref a4, .int gg.hs, .ref a5, .ref a6, .ref a7, .int (nI gg.L), .int (nI gg.M), .int (nI u_14.1), .ref a8, .int mm.sd])), (a1, .inl (cI, 49, .inl gg.r)), (a2, .inl (cI, 49, .inl mm.m)), (a3, .inl (cI, 49, .inl gg.im)), (a4, .inl (cI, 49, .inl gg.r)), (a5, .inl (cI, 96, .inl gg.lt)), (a6, .inl (cI, 16, .inl gg.rw)), (a7, .inl (cI, 7, .inl gg.rf)), (a8, .inl (cI, 3, .inl u_14.2))]) (Wr := [(a0, .inr (3, [.ref a1, .ref a2, .ref a3, .ref a4, .int gg.hs, .ref a5, .ref a6, .ref a7, .int (nI gg.L), .int (nI gg.M), .int (nI u_14.1), .ref a8, .int mm.sd])), (a2, .inl (cI, 49, .inl mm.m)), (a3, .inl (cI, 49, .inl gg.im)), (a5, .inl (cI, 96, .inl gg.lt)), (a6, .inl (cI, 16, .inl gg.rw)), (a7, .inl (cI, 7, .inl gg.rf)), (a8, .inl (cI, 3, .inl u_14.2))]) ⟨hx, hb, hml, hown, hts⟩ (kX4_copies l D cI H.size a4 a1 gg.r u_15) (va_cwS 2 hts gX4_close_X4_copies rfl rfl rfl hs_X4_copies ⟨Nat.le_of_ble_eq_true rfl, Nat.le_of_ble_eq_true rfl⟩) hK hP hD hS hA [4, 1] [0, 2, 3, 5, 6, 7, 8] [0, 8, 1, 2, 7, 3, 4, 5, 6] rfl rfl (by decide) (by decide) (by decide) (by decide) (fun u => rfl) rfl hl.1 rfl (Nat.le_of_ble_eq_true rfl) dX4_close_122 ⟨Nat.zero_le _, Nat.zero_le _⟩ (fun u_18 H locs hw_18 hP hD hS => ?_)
              refine lv_goto (tgt := 62) hx hb dX4_close_125 (by decide) ?_
              refine lv_iload_n hx hb dX4_close_62 rfl (lv_at hl 0 rfl) ?_
              refine lv_bipush (v := (-9)) hx hb dX4_close_63 (by decide) ?_
              refine lv_icmp_ne (tgt := 128) hx hb dX4_close_65 (by decide) (fun c_19 => ?_) (fun c_19 => ?_)
              · skip
                refine lv_aload_n hx hb dX4_close_128 rfl (lv_at hl 5 rfl) ?_
                refine lv_iconst (v := 0) hx hb dX4_close_129 (by decide) ?_
                refine va_put (D := D) (ci := 3) (v := .int 0) (ty := .int) (C := RX4) (T := TX4) (N := 13) hx hb hts hi_X4 tyX4 tyX4_ok nmX4 hown hK.1 hP hD hS 0 rfl rfl 8 (by decide) hk_99 (fun _ h9 => h9) rfl pd_I rfl rfl (Nat.le_of_ble_eq_true rfl) dX4_close_130 (fun H locs hP hD hS => ?_)
                have hP : va_P D vwCl [(a0, .inr (3, [.ref a1, .ref a2, .ref a3, .ref a4, .int gg.hs, .ref a5, .ref a6, .ref a7, .int 0, .int (nI gg.M), .int (nI u_14.1), .ref a8, .int mm.sd])), (a1, .inl (cI, 49, .inl gg.r)), (a2, .inl (cI, 49, .inl mm.m)), (a3, .inl (cI, 49, .inl gg.im)), (a4, .inl (cI, 49, .inl gg.r)), (a5, .inl (cI, 96, .inl gg.lt)), (a6, .inl (cI, 16, .inl gg.rw)), (a7, .inl (cI, 7, .inl gg.rf)), (a8, .inl (cI, 3, .inl u_14.2))] H := hP
                have hD : va_D A [(a0, .inr (3, [.ref a1, .ref a2, .ref a3, .ref a4, .int gg.hs, .ref a5, .ref a6, .ref a7, .int 0, .int (nI gg.M), .int (nI u_14.1), .ref a8, .int mm.sd])), (a1, .inl (cI, 49, .inl gg.r)), (a2, .inl (cI, 49, .inl mm.m)), (a3, .inl (cI, 49, .inl gg.im)), (a4, .inl (cI, 49, .inl gg.r)), (a5, .inl (cI, 96, .inl gg.lt)), (a6, .inl (cI, 16, .inl gg.rw)), (a7, .inl (cI, 7, .inl gg.rf)), (a8, .inl (cI, 3, .inl u_14.2))] := hD
                refine lv_iload_n hx hb dX4_close_133 rfl (lv_at hl 0 rfl) ?_
                refine lv_bipush (v := (-9)) hx hb dX4_close_134 (by decide) ?_
                refine lv_icmp_ne (tgt := 143) hx hb dX4_close_136 (by decide) (fun c_20 => ?_) (fun c_20 => ?_)
                · skip
                  refine lv_iload_n hx hb dX4_close_143 rfl (lv_at hl 0 rfl) ?_
                  exact hret 144 _ x_17 ((gg.n, gg.r, gg.m, gg.im, gg.hs, gg.lt, 0, gg.rw, gg.M, gg.rf), (mm.m, gg.r, u_14.2, (nI u_14.1), mm.sd)) _ _ dX4_close_144 (by have hne : ¬ (-2000 - nI q1 : Int32) = -9 := flt_ne (Or.inr rfl) (by omega); simp [sp_close, hRa, hT2, hne]; rw [ex_17, (ex_12.trans rfl)]) hP hD hS
                exact absurd c_20 c_19
              exact absurd c_19 (by rw [ex_17, show x_12 = nI q1 from (ex_12.trans rfl)]; exact flt_ne (Or.inr rfl) (by omega))
            have hd0 : dnF n9 f r_13 (u_14.2 0) (u_14.2 1) (u_14.2 2) = dnF n9 f ((hrF gg.lt gg.L) q1) (nbA (hrF gg.lt gg.L) q1) (nbB (hrF gg.lt gg.L) q1) (nbC (hrF gg.lt gg.L) q1) := by rw [hr_13]; exact dnF_nb ht3
            obtain ⟨hd1, hd2⟩ : r_15 = (if (dnF n9 f r_13 (u_14.2 0) (u_14.2 1) (u_14.2 2)).1 = true then 1 else 0) ∧ u_15 = (dnF n9 f r_13 (u_14.2 0) (u_14.2 1) (u_14.2 2)).2.2 := hw_15
            rw [hd0] at hd1 hd2
            have hd3 := bool_t hd1 c_16
            have hI_d : Inv (dnF n9 f ((hrF gg.lt gg.L) q1) (nbA (hrF gg.lt gg.L) q1) (nbB (hrF gg.lt gg.L) q1) (nbC (hrF gg.lt gg.L) q1)).2.1 u_15 := by rw [hd2]; exact hI9.idn (fun q => rsF_A ht1 q) (fun q => rsF_B ht1 q)
            have hok2 : (rdA (hrF gg.lt gg.L) gg.L f8 u_14.1 (m9 + 1)).1 = -9 ∨ gg.L ≤ u_14.1 := by
              rw [ht2]; by_cases q : (rsF (hrF gg.lt gg.L) q1).2 < gg.L
              · rw [rdA, if_neg (by rw [ht1]; decide), if_pos q] at hok; exact hok.elim Or.inl (fun z => by omega)
              · exact Or.inr (by omega)
            have hT2 : tlA (hrF gg.lt gg.L) gg.L gg.n gg.r f8 u_14.1 (dnF n9 f ((hrF gg.lt gg.L) q1) (nbA (hrF gg.lt gg.L) q1) (nbB (hrF gg.lt gg.L) q1) (nbC (hrF gg.lt gg.L) q1)).2.1 u_15 = tlA (hrF gg.lt gg.L) gg.L gg.n gg.r 98 0 gg.n gg.r := by
              rw [← hT, tlA, if_pos (by omega), if_pos hd3, ← ht2, ← hd2]
            refine lv_goto (tgt := 62) hx hb dX4_close_105 (by decide) ?_
            exact ih_8 u_14.1 ((dnF n9 f ((hrF gg.lt gg.L) q1) (nbA (hrF gg.lt gg.L) q1) (nbB (hrF gg.lt gg.L) q1) (nbC (hrF gg.lt gg.L) q1)).2.1) f8 (m9 + 1) x2 u_14.2 u_15 _ _ _ (by omega) (by omega) h2b (by omega) hI_d hok2 hT2 hP hD hS (lv_sub hl [3, 4, 5] rfl)
        exact lp_62_8 ((300 - 0) + 1) 0 gg.n 98 0 x2 u_2.2 gg.r _ _ _ (by omega) (by omega) h2 (by omega) hI (Or.inl (by rw [hRa])) rfl hP hD hS (lv_sub hl [0, 1, 2] rfl)
      have hs1 : (rsF (hrF gg.lt gg.L) q0).1 = false := bool_f hw_2.1 c_3
      have hs2 : u_2.1 = (rsF (hrF gg.lt gg.L) q0).2 := hw_2.2.1
      have hs3 := rsF_le2 (hrF gg.lt gg.L) q0
      refine lv_sipush (v := (-1000)) hx hb dX4_close_17 (by decide) ?_
      refine lv_aload_n hx hb dX4_close_20 rfl (lv_at hl 2 rfl) ?_
      refine va_get (D := D) (ci := 3) (v := .int (nI u_2.1)) (C := RX4) (T := TX4) (N := 13) hx hb hts hi_X4 hown hK.1 hP 0 rfl rfl 10 (by decide) hk_103 (fun _ h9 => h9) rfl dX4_close_21 ?_
      refine lv_isub hx hb dX4_close_24 ?_
      refine lv_topi (fun x_21 ex_21 => ?_)
      refine lv_istore_n (lv' := [(2, .int x_21), (1, .int x1), (0, .ref a0)]) hx hb dX4_close_25 rfl hl (by decide) rfl (fun ls hl => ?_)
      obtain ⟨x_22, ex_22⟩ : ∃ z : Int32, z = x1 + 1 := ⟨_, rfl⟩
      refine lv_iinc (v := x_22) (lv' := [(1, .int x_22), (2, .int x_21), (0, .ref a0)]) hx hb dX4_close_26 hl (k := 1) rfl (by rw [ex_22]; rfl) (by decide) rfl (fun ls hl => ?_)
      refine lv_iload_n hx hb dX4_close_29 rfl (lv_at hl 1 rfl) ?_
      refine lv_bipush (v := (-9)) hx hb dX4_close_30 (by decide) ?_
      refine lv_icmp_ne (tgt := 46) hx hb dX4_close_32 (by decide) (fun c_23 => ?_) (fun c_23 => ?_)
      · skip
        obtain ⟨fz, hfz⟩ : ∃ z, fu9 = z + 1 := ⟨fu9 - 1, by omega⟩
        have hRa : rdA (hrF gg.lt gg.L) gg.L 98 0 0 = (x_21, m1 + 1) := by rw [← hR, hfz, rdA, if_pos hs1, ← hs2, ex_21]
        refine lv_aload_n hx hb dX4_close_46 rfl (lv_at hl 2 rfl) ?_
        refine va_get (D := D) (ci := 3) (v := .ref a1) (C := RX4) (T := TX4) (N := 13) hx hb hts hi_X4 hown hK.1 hP 0 rfl rfl 0 (by decide) hk_9 (fun _ h9 => h9) rfl dX4_close_47 ?_
        refine lv_aload_n hx hb dX4_close_50 rfl (lv_at hl 2 rfl) ?_
        refine va_get (D := D) (ci := 3) (v := .ref a4) (C := RX4) (T := TX4) (N := 13) hx hb hts hi_X4 hown hK.1 hP 0 rfl rfl 3 (by decide) hk_19 (fun _ h9 => h9) rfl dX4_close_51 ?_
        refine xw_Sv (As := [.ref a1, .ref a4]) (rest := []) (Wn := fun u => [(a0, .inr (3, [.ref a1, .ref a2, .ref a3, .ref a4, .int gg.hs, .ref a5, .ref a6, .ref a7, .int (nI gg.L), .int (nI gg.M), .int (nI u_2.1), .ref a8, .int mm.sd])), (a1, .inl (cI, 49, .inl gg.r)), (a2, .inl (cI, 49, .inl mm.m)), (a3, .inl (cI, 49, .inl gg.im)), (a4, .inl (cI, 49, .inl gg.r)), (a5, .inl (cI, 96, .inl gg.lt)), (a6, .inl (cI, 16, .inl gg.rw)), (a7, .inl (cI, 7, .inl gg.rf)), (a8, .inl (cI, 3, .inl u_2.2))]) (Wr := [(a0, .inr (3, [.ref a1, .ref a2, .ref a3, .ref a4, .int gg.hs, .ref a5, .ref a6, .ref a7, .int (nI gg.L), .int (nI gg.M), .int (nI u_2.1), .ref a8, .int mm.sd])), (a2, .inl (cI, 49, .inl mm.m)), (a3, .inl (cI, 49, .inl gg.im)), (a5, .inl (cI, 96, .inl gg.lt)), (a6, .inl (cI, 16, .inl gg.rw)), (a7, .inl (cI, 7, .inl gg.rf)), (a8, .inl (cI, 3, .inl u_2.2))]) ⟨hx, hb, hml, hown, hts⟩ (kX4_copies l D cI H.size a1 a4 gg.r mm.ws) (va_cwS 2 hts gX4_close_X4_copies rfl rfl rfl hs_X4_copies ⟨Nat.le_of_ble_eq_true rfl, Nat.le_of_ble_eq_true rfl⟩) hK hP hD hS hA [1, 4] [0, 2, 3, 5, 6, 7, 8] [0, 7, 1, 2, 8, 3, 4, 5, 6] rfl rfl (by decide) (by decide) (by decide) (by decide) (fun u => rfl) rfl hl.1 rfl (Nat.le_of_ble_eq_true rfl) dX4_close_54 ⟨Nat.zero_le _, Nat.zero_le _⟩ (fun u_24 H locs hw_24 hP hD hS => ?_)
        refine lv_aload_n hx hb dX4_close_57 rfl (lv_at hl 2 rfl) ?_
        refine lv_iconst (v := 0) hx hb dX4_close_58 (by decide) ?_
        refine va_put (D := D) (ci := 3) (v := .int 0) (ty := .int) (C := RX4) (T := TX4) (N := 13) hx hb hts hi_X4 tyX4 tyX4_ok nmX4 hown hK.1 hP hD hS 0 rfl rfl 10 (by decide) hk_103 (fun _ h9 => h9) rfl pd_I rfl rfl (Nat.le_of_ble_eq_true rfl) dX4_close_59 (fun H locs hP hD hS => ?_)
        have hP : va_P D vwCl [(a0, .inr (3, [.ref a1, .ref a2, .ref a3, .ref a4, .int gg.hs, .ref a5, .ref a6, .ref a7, .int (nI gg.L), .int (nI gg.M), .int 0, .ref a8, .int mm.sd])), (a1, .inl (cI, 49, .inl gg.r)), (a2, .inl (cI, 49, .inl mm.m)), (a3, .inl (cI, 49, .inl gg.im)), (a4, .inl (cI, 49, .inl gg.r)), (a5, .inl (cI, 96, .inl gg.lt)), (a6, .inl (cI, 16, .inl gg.rw)), (a7, .inl (cI, 7, .inl gg.rf)), (a8, .inl (cI, 3, .inl u_2.2))] H := hP
        have hD : va_D A [(a0, .inr (3, [.ref a1, .ref a2, .ref a3, .ref a4, .int gg.hs, .ref a5, .ref a6, .ref a7, .int (nI gg.L), .int (nI gg.M), .int 0, .ref a8, .int mm.sd])), (a1, .inl (cI, 49, .inl gg.r)), (a2, .inl (cI, 49, .inl mm.m)), (a3, .inl (cI, 49, .inl gg.im)), (a4, .inl (cI, 49, .inl gg.r)), (a5, .inl (cI, 96, .inl gg.lt)), (a6, .inl (cI, 16, .inl gg.rw)), (a7, .inl (cI, 7, .inl gg.rf)), (a8, .inl (cI, 3, .inl u_2.2))] := hD
        refine lv_iload_n hx hb dX4_close_62 rfl (lv_at hl 1 rfl) ?_
        refine lv_bipush (v := (-9)) hx hb dX4_close_63 (by decide) ?_
        refine lv_icmp_ne (tgt := 128) hx hb dX4_close_65 (by decide) (fun c_25 => ?_) (fun c_25 => ?_)
        · skip
          refine lv_aload_n hx hb dX4_close_128 rfl (lv_at hl 2 rfl) ?_
          refine lv_iconst (v := 0) hx hb dX4_close_129 (by decide) ?_
          refine va_put (D := D) (ci := 3) (v := .int 0) (ty := .int) (C := RX4) (T := TX4) (N := 13) hx hb hts hi_X4 tyX4 tyX4_ok nmX4 hown hK.1 hP hD hS 0 rfl rfl 8 (by decide) hk_99 (fun _ h9 => h9) rfl pd_I rfl rfl (Nat.le_of_ble_eq_true rfl) dX4_close_130 (fun H locs hP hD hS => ?_)
          have hP : va_P D vwCl [(a0, .inr (3, [.ref a1, .ref a2, .ref a3, .ref a4, .int gg.hs, .ref a5, .ref a6, .ref a7, .int 0, .int (nI gg.M), .int 0, .ref a8, .int mm.sd])), (a1, .inl (cI, 49, .inl gg.r)), (a2, .inl (cI, 49, .inl mm.m)), (a3, .inl (cI, 49, .inl gg.im)), (a4, .inl (cI, 49, .inl gg.r)), (a5, .inl (cI, 96, .inl gg.lt)), (a6, .inl (cI, 16, .inl gg.rw)), (a7, .inl (cI, 7, .inl gg.rf)), (a8, .inl (cI, 3, .inl u_2.2))] H := hP
          have hD : va_D A [(a0, .inr (3, [.ref a1, .ref a2, .ref a3, .ref a4, .int gg.hs, .ref a5, .ref a6, .ref a7, .int 0, .int (nI gg.M), .int 0, .ref a8, .int mm.sd])), (a1, .inl (cI, 49, .inl gg.r)), (a2, .inl (cI, 49, .inl mm.m)), (a3, .inl (cI, 49, .inl gg.im)), (a4, .inl (cI, 49, .inl gg.r)), (a5, .inl (cI, 96, .inl gg.lt)), (a6, .inl (cI, 16, .inl gg.rw)), (a7, .inl (cI, 7, .inl gg.rf)), (a8, .inl (cI, 3, .inl u_2.2))] := hD
          refine lv_iload_n hx hb dX4_close_133 rfl (lv_at hl 1 rfl) ?_
          refine lv_bipush (v := (-9)) hx hb dX4_close_134 (by decide) ?_
          refine lv_icmp_ne (tgt := 143) hx hb dX4_close_136 (by decide) (fun c_26 => ?_) (fun c_26 => ?_)
          · skip
            refine lv_iload_n hx hb dX4_close_143 rfl (lv_at hl 1 rfl) ?_
            exact hret 144 _ x_21 ((gg.n, gg.r, gg.m, gg.im, gg.hs, gg.lt, 0, gg.rw, gg.M, gg.rf), (mm.m, gg.r, u_2.2, 0, mm.sd)) _ _ dX4_close_144 (by have hne : ¬ x_21 = -9 := (by rw [ex_21]; exact flt_ne (Or.inl rfl) (by omega)); simp [sp_close, hRa, hne]) hP hD hS
          exact absurd c_26 c_23
        exact absurd c_25 c_23
      exact absurd c_23 (by rw [ex_21]; exact flt_ne (Or.inl rfl) (by omega))
  exact lp_10_1 ((300 - 0) + 1) 0 0 98 (-9) 0 mm.nb _ _ _ (by omega) (rfl : (0 : Int32) = nI 0) (by omega) rfl (by omega) rfl hP hD hS (lv_sub hl [0, 1, 2] rfl)


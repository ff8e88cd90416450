theorem hs_X4_no : yX4_no.cls ≠ "java/lang/invoke/MethodHandle" ∧ yX4_no.cls ≠ "java/lang/invoke/VarHandle" ∧ (parseMethodDescriptor yX4_no.desc).map (fun d => d.parameters.length) = some 1 := by decide +kernel
theorem hv_X4_no : yX4_no.cls = RX4 ∧ yX4_no.cls ≠ "java/lang/invoke/MethodHandle" ∧ yX4_no.cls ≠ "java/lang/invoke/VarHandle" ∧ (parseMethodDescriptor yX4_no.desc).map (fun d => d.parameters.length) = some 1 := ⟨rfl, hs_X4_no⟩
theorem hs_X4_noWide : yX4_noWide.cls ≠ "java/lang/invoke/MethodHandle" ∧ yX4_noWide.cls ≠ "java/lang/invoke/VarHandle" ∧ (parseMethodDescriptor yX4_noWide.desc).map (fun d => d.parameters.length) = some 1 := by decide +kernel
theorem hv_X4_noWide : yX4_noWide.cls = RX4 ∧ yX4_noWide.cls ≠ "java/lang/invoke/MethodHandle" ∧ yX4_noWide.cls ≠ "java/lang/invoke/VarHandle" ∧ (parseMethodDescriptor yX4_noWide.desc).map (fun d => d.parameters.length) = some 1 := ⟨rfl, hs_X4_noWide⟩
theorem hs_X4_isSaying : yX4_isSaying.cls ≠ "java/lang/invoke/MethodHandle" ∧ yX4_isSaying.cls ≠ "java/lang/invoke/VarHandle" ∧ (parseMethodDescriptor yX4_isSaying.desc).map (fun d => d.parameters.length) = some 1 := by decide +kernel
theorem hv_X4_isSaying : yX4_isSaying.cls = RX4 ∧ yX4_isSaying.cls ≠ "java/lang/invoke/MethodHandle" ∧ yX4_isSaying.cls ≠ "java/lang/invoke/VarHandle" ∧ (parseMethodDescriptor yX4_isSaying.desc).map (fun d => d.parameters.length) = some 1 := ⟨rfl, hs_X4_isSaying⟩
theorem hs_X4_letter : yX4_letter.cls ≠ "java/lang/invoke/MethodHandle" ∧ yX4_letter.cls ≠ "java/lang/invoke/VarHandle" ∧ (parseMethodDescriptor yX4_letter.desc).map (fun d => d.parameters.length) = some 1 := by decide +kernel
theorem hv_X4_letter : yX4_letter.cls = RX4 ∧ yX4_letter.cls ≠ "java/lang/invoke/MethodHandle" ∧ yX4_letter.cls ≠ "java/lang/invoke/VarHandle" ∧ (parseMethodDescriptor yX4_letter.desc).map (fun d => d.parameters.length) = some 1 := ⟨rfl, hs_X4_letter⟩
theorem hs_X4_saying : yX4_saying.cls ≠ "java/lang/invoke/MethodHandle" ∧ yX4_saying.cls ≠ "java/lang/invoke/VarHandle" ∧ (parseMethodDescriptor yX4_saying.desc).map (fun d => d.parameters.length) = some 2 := by decide +kernel
theorem hv_X4_saying : yX4_saying.cls = RX4 ∧ yX4_saying.cls ≠ "java/lang/invoke/MethodHandle" ∧ yX4_saying.cls ≠ "java/lang/invoke/VarHandle" ∧ (parseMethodDescriptor yX4_saying.desc).map (fun d => d.parameters.length) = some 2 := ⟨rfl, hs_X4_saying⟩
theorem hs_X4_takes : yX4_takes.cls ≠ "java/lang/invoke/MethodHandle" ∧ yX4_takes.cls ≠ "java/lang/invoke/VarHandle" ∧ (parseMethodDescriptor yX4_takes.desc).map (fun d => d.parameters.length) = some 1 := by decide +kernel
theorem hv_X4_takes : yX4_takes.cls = RX4 ∧ yX4_takes.cls ≠ "java/lang/invoke/MethodHandle" ∧ yX4_takes.cls ≠ "java/lang/invoke/VarHandle" ∧ (parseMethodDescriptor yX4_takes.desc).map (fun d => d.parameters.length) = some 1 := ⟨rfl, hs_X4_takes⟩
theorem hs_X4_concerns : yX4_concerns.cls ≠ "java/lang/invoke/MethodHandle" ∧ yX4_concerns.cls ≠ "java/lang/invoke/VarHandle" ∧ (parseMethodDescriptor yX4_concerns.desc).map (fun d => d.parameters.length) = some 2 := by decide +kernel
theorem hv_X4_concerns : yX4_concerns.cls = RX4 ∧ yX4_concerns.cls ≠ "java/lang/invoke/MethodHandle" ∧ yX4_concerns.cls ≠ "java/lang/invoke/VarHandle" ∧ (parseMethodDescriptor yX4_concerns.desc).map (fun d => d.parameters.length) = some 2 := ⟨rfl, hs_X4_concerns⟩
theorem hs_X4_nest : yX4_nest.cls ≠ "java/lang/invoke/MethodHandle" ∧ yX4_nest.cls ≠ "java/lang/invoke/VarHandle" ∧ (parseMethodDescriptor yX4_nest.desc).map (fun d => d.parameters.length) = some 2 := by decide +kernel
theorem hv_X4_nest : yX4_nest.cls = RX4 ∧ yX4_nest.cls ≠ "java/lang/invoke/MethodHandle" ∧ yX4_nest.cls ≠ "java/lang/invoke/VarHandle" ∧ (parseMethodDescriptor yX4_nest.desc).map (fun d => d.parameters.length) = some 2 := ⟨rfl, hs_X4_nest⟩
theorem hs_X4_wears : yX4_wears.cls ≠ "java/lang/invoke/MethodHandle" ∧ yX4_wears.cls ≠ "java/lang/invoke/VarHandle" ∧ (parseMethodDescriptor yX4_wears.desc).map (fun d => d.parameters.length) = some 2 := by decide +kernel
theorem hv_X4_wears : yX4_wears.cls = RX4 ∧ yX4_wears.cls ≠ "java/lang/invoke/MethodHandle" ∧ yX4_wears.cls ≠ "java/lang/invoke/VarHandle" ∧ (parseMethodDescriptor yX4_wears.desc).map (fun d => d.parameters.length) = some 2 := ⟨rfl, hs_X4_wears⟩
theorem hs_X4_turn : yX4_turn.cls ≠ "java/lang/invoke/MethodHandle" ∧ yX4_turn.cls ≠ "java/lang/invoke/VarHandle" ∧ (parseMethodDescriptor yX4_turn.desc).map (fun d => d.parameters.length) = some 3 := by decide +kernel
theorem hv_X4_turn : yX4_turn.cls = RX4 ∧ yX4_turn.cls ≠ "java/lang/invoke/MethodHandle" ∧ yX4_turn.cls ≠ "java/lang/invoke/VarHandle" ∧ (parseMethodDescriptor yX4_turn.desc).map (fun d => d.parameters.length) = some 3 := ⟨rfl, hs_X4_turn⟩
theorem hs_X4_boy : yX4_boy.cls ≠ "java/lang/invoke/MethodHandle" ∧ yX4_boy.cls ≠ "java/lang/invoke/VarHandle" ∧ (parseMethodDescriptor yX4_boy.desc).map (fun d => d.parameters.length) = some 1 := by decide +kernel
theorem hv_X4_boy : yX4_boy.cls = RX4 ∧ yX4_boy.cls ≠ "java/lang/invoke/MethodHandle" ∧ yX4_boy.cls ≠ "java/lang/invoke/VarHandle" ∧ (parseMethodDescriptor yX4_boy.desc).map (fun d => d.parameters.length) = some 1 := ⟨rfl, hs_X4_boy⟩
theorem hs_X4_days : yX4_days.cls ≠ "java/lang/invoke/MethodHandle" ∧ yX4_days.cls ≠ "java/lang/invoke/VarHandle" ∧ (parseMethodDescriptor yX4_days.desc).map (fun d => d.parameters.length) = some 1 := by decide +kernel
theorem hv_X4_days : yX4_days.cls = RX4 ∧ yX4_days.cls ≠ "java/lang/invoke/MethodHandle" ∧ yX4_days.cls ≠ "java/lang/invoke/VarHandle" ∧ (parseMethodDescriptor yX4_days.desc).map (fun d => d.parameters.length) = some 1 := ⟨rfl, hs_X4_days⟩
theorem hs_X4_row : yX4_row.cls ≠ "java/lang/invoke/MethodHandle" ∧ yX4_row.cls ≠ "java/lang/invoke/VarHandle" ∧ (parseMethodDescriptor yX4_row.desc).map (fun d => d.parameters.length) = some 1 := by decide +kernel
theorem hv_X4_row : yX4_row.cls = RX4 ∧ yX4_row.cls ≠ "java/lang/invoke/MethodHandle" ∧ yX4_row.cls ≠ "java/lang/invoke/VarHandle" ∧ (parseMethodDescriptor yX4_row.desc).map (fun d => d.parameters.length) = some 1 := ⟨rfl, hs_X4_row⟩
theorem hs_X4_clear : yX4_clear.cls ≠ "java/lang/invoke/MethodHandle" ∧ yX4_clear.cls ≠ "java/lang/invoke/VarHandle" ∧ (parseMethodDescriptor yX4_clear.desc).map (fun d => d.parameters.length) = some 0 := by decide +kernel
theorem hv_X4_clear : yX4_clear.cls = RX4 ∧ yX4_clear.cls ≠ "java/lang/invoke/MethodHandle" ∧ yX4_clear.cls ≠ "java/lang/invoke/VarHandle" ∧ (parseMethodDescriptor yX4_clear.desc).map (fun d => d.parameters.length) = some 0 := ⟨rfl, hs_X4_clear⟩
theorem hs_X4_image : yX4_image.cls ≠ "java/lang/invoke/MethodHandle" ∧ yX4_image.cls ≠ "java/lang/invoke/VarHandle" ∧ (parseMethodDescriptor yX4_image.desc).map (fun d => d.parameters.length) = some 0 := by decide +kernel
theorem hv_X4_image : yX4_image.cls = RX4 ∧ yX4_image.cls ≠ "java/lang/invoke/MethodHandle" ∧ yX4_image.cls ≠ "java/lang/invoke/VarHandle" ∧ (parseMethodDescriptor yX4_image.desc).map (fun d => d.parameters.length) = some 0 := ⟨rfl, hs_X4_image⟩
theorem hs_X4_on : yX4_on.cls ≠ "java/lang/invoke/MethodHandle" ∧ yX4_on.cls ≠ "java/lang/invoke/VarHandle" ∧ (parseMethodDescriptor yX4_on.desc).map (fun d => d.parameters.length) = some 0 := by decide +kernel
theorem hv_X4_on : yX4_on.cls = RX4 ∧ yX4_on.cls ≠ "java/lang/invoke/MethodHandle" ∧ yX4_on.cls ≠ "java/lang/invoke/VarHandle" ∧ (parseMethodDescriptor yX4_on.desc).map (fun d => d.parameters.length) = some 0 := ⟨rfl, hs_X4_on⟩
set_option maxHeartbeats 4000000 in
set_option maxRecDepth 100000 in
theorem kX4_no (l : Launch) (D : va_G) (cI : ClassId) (sz : Nat) (a0 a1 a2 a3 a4 a5 a6 a7 a8 : Nat) (gg : GG) (mm : MS) (p0 : Int32) (hc : okc p0) : Met l yX4_no wsX4_no ({ frames := 0, cells := 0, slots := 0, locals := 0 }) (PRW D cI [.ref a0, .int p0] [(a0, .inr (3, [.ref a1, .ref a2, .ref a3, .ref a4, .int gg.hs, .ref a5, .ref a6, .ref a7, .int (nI gg.L), .int (nI gg.M), .int mm.pl, .ref a8, .int mm.sd])), (a7, .inl (cI, 7, .inl gg.rf))] sz) (va_Qi (S := Unit) (fun v _ => v = p0) (BRW D [(a0, .inr (3, [.ref a1, .ref a2, .ref a3, .ref a4, .int gg.hs, .ref a5, .ref a6, .ref a7, .int (nI gg.L), .int (nI gg.M), .int mm.pl, .ref a8, .int mm.sd])), (a7, .inl (cI, 7, .inl gg.rf))] sz (fun u => [(a0, .inr (3, [.ref a1, .ref a2, .ref a3, .ref a4, .int gg.hs, .ref a5, .ref a6, .ref a7, .int (nI gg.L), .int (nI gg.M), .int mm.pl, .ref a8, .int mm.sd])), (a7, .inl (cI, 7, .inl (upd gg.rf (cN p0) (gg.rf (cN p0) + 1))))])) (va_A [(a0, .inr (3, [.ref a1, .ref a2, .ref a3, .ref a4, .int gg.hs, .ref a5, .ref a6, .ref a7, .int (nI gg.L), .int (nI gg.M), .int mm.pl, .ref a8, .int mm.sd])), (a7, .inl (cI, 7, .inl gg.rf))] sz)) 0 0 (va_A [(a0, .inr (3, [.ref a1, .ref a2, .ref a3, .ref a4, .int gg.hs, .ref a5, .ref a6, .ref a7, .int (nI gg.L), .int (nI gg.M), .int mm.pl, .ref a8, .int mm.sd])), (a7, .inl (cI, 7, .inl gg.rf))] sz) := by
  refine st_rwi (cc := cX4_no) (maxL := 2) (rt := .int) (by decide) rfl (Nat.le_of_ble_eq_true rfl) (fun _ _ _ => rfl) ?_
  intro p e s m below meth c Q ls A hx hb hml hts hown hP hK hD hA hS hl hret
  replace hown : s.vm.findClass RX4 = some m.cls := hown
  replace hl : lv_has ls 2 [(0, .ref a0), (1, .int p0)] := hl
  obtain ⟨H, hH⟩ : ∃ z, z = s.heap := ⟨_, rfl⟩
  obtain ⟨locs, hlo⟩ : ∃ z : List Loc, z = [] := ⟨_, rfl⟩
  replace hP : va_P D vwCl [(a0, .inr (3, [.ref a1, .ref a2, .ref a3, .ref a4, .int gg.hs, .ref a5, .ref a6, .ref a7, .int (nI gg.L), .int (nI gg.M), .int mm.pl, .ref a8, .int mm.sd])), (a7, .inl (cI, 7, .inl gg.rf))] H := by rw [hH]; exact hP
  replace hS : va_S A s.heap H locs := by rw [hH, hlo]; exact hS
  show W p l e ({ frames := 0, cells := 0, slots := 0, locals := 0 }) s m [.ref a0, .int p0].toArray below meth c s.heap [] 0 0 Q (F0 m 0 ls [])
  rw [← hlo]
  suffices hgo : W p l e ({ frames := 0, cells := 0, slots := 0, locals := 0 }) s m [.ref a0, .int p0].toArray below meth c H locs 0 0 Q (F0 m 0 ls []) by rw [hH] at hgo; exact hgo
  clear hH hlo
  have hi_X4 : ∀ w ∈ wsX40, w ∈ wsX4_no := fun w h => List.mem_cons_of_mem _ (List.mem_append_right _ (h))
  have hk_28 := hts (.fieldLink RX4 28 "NestsOfTalkModel" "refused" "[I") (List.mem_of_getElem? (i := 1) rfl)
  obtain ⟨hc9, hc7, -⟩ := okc_nat hc
  refine lv_aload_n hx hb dX4_no_0 rfl (lv_at hl 0 rfl) ?_
  refine va_get (D := D) (ci := 3) (v := .ref a7) (C := RX4) (T := TX4) (N := 13) hx hb hts hi_X4 hown hK.1 hP 0 rfl rfl 7 (by decide) hk_28 (fun _ h9 => h9) rfl dX4_no_1 ?_
  refine lv_iload_n hx hb dX4_no_4 rfl (lv_at hl 1 rfl) ?_
  refine lv_ineg hx hb dX4_no_5 ?_
  refine lv_dup2_11 hx hb dX4_no_6 rfl rfl ?_
  refine xa_ld hx hb hK hP 1 rfl (j := (cN p0)) hc9 (by omega) (by decide) dX4_no_7 ?_
  refine lv_iconst (v := 1) hx hb dX4_no_8 (by decide) ?_
  refine lv_iadd hx hb dX4_no_9 ?_
  refine xa_st hx hb hK hP hD hS 1 rfl (j := (cN p0)) hc9 (by omega) (by decide) dX4_no_10 (fun H locs hP hD hS => ?_)
  obtain ⟨f_1, ef_1⟩ : ∃ z : Nat → Int32, z = upd gg.rf (cN p0) ((gg.rf (cN p0)) + 1) := ⟨_, rfl⟩
  replace hP : va_P D vwCl [(a0, .inr (3, [.ref a1, .ref a2, .ref a3, .ref a4, .int gg.hs, .ref a5, .ref a6, .ref a7, .int (nI gg.L), .int (nI gg.M), .int mm.pl, .ref a8, .int mm.sd])), (a7, .inl (cI, 7, .inl (upd gg.rf (cN p0) ((gg.rf (cN p0)) + 1))))] H := hP
  replace hD : va_D A [(a0, .inr (3, [.ref a1, .ref a2, .ref a3, .ref a4, .int gg.hs, .ref a5, .ref a6, .ref a7, .int (nI gg.L), .int (nI gg.M), .int mm.pl, .ref a8, .int mm.sd])), (a7, .inl (cI, 7, .inl (upd gg.rf (cN p0) ((gg.rf (cN p0)) + 1))))] := hD
  rw [← ef_1] at hP hD
  rw [ef_1] at hP hD
  refine lv_iload_n hx hb dX4_no_11 rfl (lv_at hl 1 rfl) ?_
  exact hret 12 _ p0 () _ _ dX4_no_12 rfl hP hD hS

set_option maxHeartbeats 4000000 in
set_option maxRecDepth 100000 in
theorem kX4_noWide (l : Launch) (D : va_G) (cI : ClassId) (sz : Nat) (a0 a1 a2 a3 a4 a5 a6 a7 a8 : Nat) (gg : GG) (mm : MS) (p0 : Int32) (hc : okc p0) : Met l yX4_noWide wsX4_noWide ({ frames := 1, cells := 0, slots := 0, locals := 21 }) (PRW D cI [.ref a0, .int p0] [(a0, .inr (3, [.ref a1, .ref a2, .ref a3, .ref a4, .int gg.hs, .ref a5, .ref a6, .ref a7, .int (nI gg.L), .int (nI gg.M), .int mm.pl, .ref a8, .int mm.sd])), (a7, .inl (cI, 7, .inl gg.rf))] sz) (va_Ql (S := Unit) (fun v _ => v = 4000000000000000000 - p0.toInt64) (BRW D [(a0, .inr (3, [.ref a1, .ref a2, .ref a3, .ref a4, .int gg.hs, .ref a5, .ref a6, .ref a7, .int (nI gg.L), .int (nI gg.M), .int mm.pl, .ref a8, .int mm.sd])), (a7, .inl (cI, 7, .inl gg.rf))] sz (fun u => [(a0, .inr (3, [.ref a1, .ref a2, .ref a3, .ref a4, .int gg.hs, .ref a5, .ref a6, .ref a7, .int (nI gg.L), .int (nI gg.M), .int mm.pl, .ref a8, .int mm.sd])), (a7, .inl (cI, 7, .inl (upd gg.rf (cN p0) (gg.rf (cN p0) + 1))))])) (va_A [(a0, .inr (3, [.ref a1, .ref a2, .ref a3, .ref a4, .int gg.hs, .ref a5, .ref a6, .ref a7, .int (nI gg.L), .int (nI gg.M), .int mm.pl, .ref a8, .int mm.sd])), (a7, .inl (cI, 7, .inl gg.rf))] sz)) 0 0 (va_A [(a0, .inr (3, [.ref a1, .ref a2, .ref a3, .ref a4, .int gg.hs, .ref a5, .ref a6, .ref a7, .int (nI gg.L), .int (nI gg.M), .int mm.pl, .ref a8, .int mm.sd])), (a7, .inl (cI, 7, .inl gg.rf))] sz) := by
  refine st_rwl (cc := cX4_noWide) (maxL := 2) (by decide) rfl (Nat.le_of_ble_eq_true rfl) ?_
  intro p e s m below meth c Q ls A hx hb hml hts hown hP hK hD hA hS hl hret
  replace hown : s.vm.findClass RX4 = some m.cls := hown
  replace hl : lv_has ls 2 [(0, .ref a0), (1, .int p0)] := hl
  obtain ⟨H, hH⟩ : ∃ z, z = s.heap := ⟨_, rfl⟩
  obtain ⟨locs, hlo⟩ : ∃ z : List Loc, z = [] := ⟨_, rfl⟩
  replace hP : va_P D vwCl [(a0, .inr (3, [.ref a1, .ref a2, .ref a3, .ref a4, .int gg.hs, .ref a5, .ref a6, .ref a7, .int (nI gg.L), .int (nI gg.M), .int mm.pl, .ref a8, .int mm.sd])), (a7, .inl (cI, 7, .inl gg.rf))] H := by rw [hH]; exact hP
  replace hS : va_S A s.heap H locs := by rw [hH, hlo]; exact hS
  show W p l e ({ frames := 1, cells := 0, slots := 0, locals := 21 }) s m [.ref a0, .int p0].toArray below meth c s.heap [] 0 0 Q (F0 m 0 ls [])
  rw [← hlo]
  suffices hgo : W p l e ({ frames := 1, cells := 0, slots := 0, locals := 21 }) s m [.ref a0, .int p0].toArray below meth c H locs 0 0 Q (F0 m 0 ls []) by rw [hH] at hgo; exact hgo
  clear hH hlo
  have hc_34 := hts (.constantLong RX4 34 (4000000000000000000)) (List.mem_of_getElem? (i := 1) rfl)
  refine lv_ldc2 (v := 4000000000000000000) hx hb hown hc_34 dX4_noWide_0 ?_
  refine lv_aload_n hx hb dX4_noWide_3 rfl (lv_at hl 0 rfl) ?_
  refine lv_iload_n hx hb dX4_noWide_4 rfl (lv_at hl 1 rfl) ?_
  refine xw_Vi (As := [.int p0]) (rest := [.long 4000000000000000000]) (Wn := fun u => [(a0, .inr (3, [.ref a1, .ref a2, .ref a3, .ref a4, .int gg.hs, .ref a5, .ref a6, .ref a7, .int (nI gg.L), .int (nI gg.M), .int mm.pl, .ref a8, .int mm.sd])), (a7, .inl (cI, 7, .inl (upd gg.rf (cN p0) (gg.rf (cN p0) + 1))))]) (Wr := []) ⟨hx, hb, hml, hown, hts⟩ (kX4_no l D cI H.size a0 a1 a2 a3 a4 a5 a6 a7 a8 gg mm p0 hc) (cwV 1 hts gX4_noWide_X4_no rfl rfl rfl hv_X4_no ⟨Nat.le_of_ble_eq_true rfl, Nat.le_of_ble_eq_true rfl⟩) hK hP hD hS hA [0, 1] [] [0, 1] rfl rfl (by decide) (by decide) (by decide) (by decide) (fun u => rfl) 0 rfl rfl rfl hl.1 rfl (Nat.le_of_ble_eq_true rfl) dX4_noWide_5 ⟨Nat.zero_le _, Nat.zero_le _⟩ (fun r_1 u_1 H locs hw_1 hP hD hS => ?_)
  refine lv_i2l (v := r_1.toInt64) hx hb dX4_noWide_8 rfl ?_
  refine lv_lsub hx hb dX4_noWide_9 ?_
  exact hret 10 _ (4000000000000000000 - r_1.toInt64) () _ _ dX4_noWide_10 (by rw [hw_1]) hP hD hS

set_option maxHeartbeats 4000000 in
set_option maxRecDepth 100000 in
theorem kX4_isSaying (l : Launch) (D : va_G) (cI : ClassId) (a0 a1 a2 a3 a4 a5 a6 a7 a8 : Nat) (gg : GG) (mm : MS) (n : Nat) (hI : Inv n gg.r) (p0 : Int32) : Met l yX4_isSaying wsX4_isSaying ({ frames := 1, cells := 0, slots := 0, locals := 22 }) (PRO D cI [.ref a0, .int p0] [(a0, .inr (3, [.ref a1, .ref a2, .ref a3, .ref a4, .int gg.hs, .ref a5, .ref a6, .ref a7, .int (nI gg.L), .int (nI gg.M), .int mm.pl, .ref a8, .int mm.sd])), (a1, .inl (cI, 49, .inl gg.r))]) (vp_Si (fun v => v = (if sayB n p0 = true then 1 else 0))) 0 0 (fun _ => False) := by
  refine st_roi (cc := cX4_isSaying) (maxL := 2) (rt := .boolean) (by decide) rfl (Nat.le_of_ble_eq_true rfl) (by intro v h; subst h; split <;> rfl) ?_
  intro p e s m below meth c Q ls hx hb hml hts hown hP hK hl hret
  replace hown : s.vm.findClass RX4 = some m.cls := hown
  replace hl : lv_has ls 2 [(0, .ref a0), (1, .int p0)] := hl
  have hi_X4 : ∀ w ∈ wsX40, w ∈ wsX4_isSaying := fun w h => List.mem_cons_of_mem _ (List.mem_append_right _ (h))
  have hk_9 := hts (.fieldLink RX4 9 "NestsOfTalkModel" "s" "[I") (List.mem_of_getElem? (i := 1) rfl)
  refine lv_iload_n hx hb dX4_isSaying_0 rfl (lv_at hl 1 rfl) ?_
  refine lv_iconst (v := 0) hx hb dX4_isSaying_1 (by decide) ?_
  refine lv_aload_n hx hb dX4_isSaying_2 rfl (lv_at hl 0 rfl) ?_
  refine va_get (D := D) (ci := 3) (v := .ref a1) (C := RX4) (T := TX4) (N := 13) hx hb hts hi_X4 hown hK.1 hP 0 rfl rfl 0 (by decide) hk_9 (fun _ h9 => h9) rfl dX4_isSaying_3 ?_
  refine lv_iconst (v := 0) hx hb dX4_isSaying_6 (by decide) ?_
  refine xa_ld hx hb hK hP 1 rfl (j := 0) (rfl : (0 : Int32) = nI 0) (by omega) (by decide) dX4_isSaying_7 ?_
  refine lv_iconst (v := 1) hx hb dX4_isSaying_8 (by decide) ?_
  refine lv_isub hx hb dX4_isSaying_9 ?_
  refine xc_Si (As := [.int p0, .int 0, .int ((gg.r 0) - 1)]) (rest := []) ⟨hx, hb, hml, hown, hts⟩ (kX4_isIn l D cI p0 0 ((gg.r 0) - 1)) (va_cwS 3 hts gX4_isSaying_X4_isIn rfl rfl rfl hs_X4_isIn ⟨Nat.le_of_ble_eq_true rfl, Nat.le_of_ble_eq_true rfl⟩) hK hP [] rfl rfl hl.1 rfl (Nat.le_of_ble_eq_true rfl) dX4_isSaying_10 ⟨Nat.zero_le _, Nat.zero_le _⟩ (fun r_1 hr_1 => ?_)
  exact hret 13 _ r_1 dX4_isSaying_13 (hr_1.trans (sayB_ite hI.le hI.n0))

set_option maxHeartbeats 4000000 in
set_option maxRecDepth 100000 in
theorem kX4_letter (l : Launch) (D : va_G) (cI : ClassId) (sz : Nat) (a0 a1 a2 a3 a4 a5 a6 a7 a8 : Nat) (gg : GG) (mm : MS) (hG : Good gg) (p0 : Int32) : Met l yX4_letter wsX4_letter ({ frames := 1, cells := 0, slots := 0, locals := 21 }) (PRW D cI [.ref a0, .int p0] [(a0, .inr (3, [.ref a1, .ref a2, .ref a3, .ref a4, .int gg.hs, .ref a5, .ref a6, .ref a7, .int (nI gg.L), .int (nI gg.M), .int mm.pl, .ref a8, .int mm.sd])), (a1, .inl (cI, 49, .inl gg.r)), (a2, .inl (cI, 49, .inl mm.m)), (a3, .inl (cI, 49, .inl gg.im)), (a4, .inl (cI, 49, .inl mm.ws)), (a5, .inl (cI, 96, .inl gg.lt)), (a6, .inl (cI, 16, .inl gg.rw)), (a7, .inl (cI, 7, .inl gg.rf)), (a8, .inl (cI, 3, .inl mm.nb))] sz) (va_Qi (S := GG × MS) (fun v u => (v, u.1) = sp_letter gg p0) (BRW D [(a0, .inr (3, [.ref a1, .ref a2, .ref a3, .ref a4, .int gg.hs, .ref a5, .ref a6, .ref a7, .int (nI gg.L), .int (nI gg.M), .int mm.pl, .ref a8, .int mm.sd])), (a1, .inl (cI, 49, .inl gg.r)), (a2, .inl (cI, 49, .inl mm.m)), (a3, .inl (cI, 49, .inl gg.im)), (a4, .inl (cI, 49, .inl mm.ws)), (a5, .inl (cI, 96, .inl gg.lt)), (a6, .inl (cI, 16, .inl gg.rw)), (a7, .inl (cI, 7, .inl gg.rf)), (a8, .inl (cI, 3, .inl mm.nb))] sz (fun u => [(a0, .inr (3, [.ref a1, .ref a2, .ref a3, .ref a4, .int u.1.hs, .ref a5, .ref a6, .ref a7, .int (nI u.1.L), .int (nI u.1.M), .int u.2.pl, .ref a8, .int u.2.sd])), (a1, .inl (cI, 49, .inl u.1.r)), (a2, .inl (cI, 49, .inl u.2.m)), (a3, .inl (cI, 49, .inl u.1.im)), (a4, .inl (cI, 49, .inl u.2.ws)), (a5, .inl (cI, 96, .inl u.1.lt)), (a6, .inl (cI, 16, .inl u.1.rw)), (a7, .inl (cI, 7, .inl u.1.rf)), (a8, .inl (cI, 3, .inl u.2.nb))])) (va_A [(a0, .inr (3, [.ref a1, .ref a2, .ref a3, .ref a4, .int gg.hs, .ref a5, .ref a6, .ref a7, .int (nI gg.L), .int (nI gg.M), .int mm.pl, .ref a8, .int mm.sd])), (a1, .inl (cI, 49, .inl gg.r)), (a2, .inl (cI, 49, .inl mm.m)), (a3, .inl (cI, 49, .inl gg.im)), (a4, .inl (cI, 49, .inl mm.ws)), (a5, .inl (cI, 96, .inl gg.lt)), (a6, .inl (cI, 16, .inl gg.rw)), (a7, .inl (cI, 7, .inl gg.rf)), (a8, .inl (cI, 3, .inl mm.nb))] sz)) 0 0 (va_A [(a0, .inr (3, [.ref a1, .ref a2, .ref a3, .ref a4, .int gg.hs, .ref a5, .ref a6, .ref a7, .int (nI gg.L), .int (nI gg.M), .int mm.pl, .ref a8, .int mm.sd])), (a1, .inl (cI, 49, .inl gg.r)), (a2, .inl (cI, 49, .inl mm.m)), (a3, .inl (cI, 49, .inl gg.im)), (a4, .inl (cI, 49, .inl mm.ws)), (a5, .inl (cI, 96, .inl gg.lt)), (a6, .inl (cI, 16, .inl gg.rw)), (a7, .inl (cI, 7, .inl gg.rf)), (a8, .inl (cI, 3, .inl mm.nb))] sz) := by
  refine st_rwi (cc := cX4_letter) (maxL := 2) (rt := .int) (by decide) rfl (Nat.le_of_ble_eq_true rfl) (fun _ _ _ => rfl) ?_
  intro p e s m below meth c Q ls A hx hb hml hts hown hP hK hD hA hS hl hret
  replace hown : s.vm.findClass RX4 = some m.cls := hown
  replace hl : lv_has ls 2 [(0, .ref a0), (1, .int p0)] := hl
  obtain ⟨H, hH⟩ : ∃ z, z = s.heap := ⟨_, rfl⟩
  obtain ⟨locs, hlo⟩ : ∃ z : List Loc, z = [] := ⟨_, rfl⟩
  replace hP : va_P D vwCl [(a0, .inr (3, [.ref a1, .ref a2, .ref a3, .ref a4, .int gg.hs, .ref a5, .ref a6, .ref a7, .int (nI gg.L), .int (nI gg.M), .int mm.pl, .ref a8, .int mm.sd])), (a1, .inl (cI, 49, .inl gg.r)), (a2, .inl (cI, 49, .inl mm.m)), (a3, .inl (cI, 49, .inl gg.im)), (a4, .inl (cI, 49, .inl mm.ws)), (a5, .inl (cI, 96, .inl gg.lt)), (a6, .inl (cI, 16, .inl gg.rw)), (a7, .inl (cI, 7, .inl gg.rf)), (a8, .inl (cI, 3, .inl mm.nb))] H := by rw [hH]; exact hP
  replace hS : va_S A s.heap H locs := by rw [hH, hlo]; exact hS
  show W p l e ({ frames := 1, cells := 0, slots := 0, locals := 21 }) s m [.ref a0, .int p0].toArray below meth c s.heap [] 0 0 Q (F0 m 0 ls [])
  rw [← hlo]
  suffices hgo : W p l e ({ frames := 1, cells := 0, slots := 0, locals := 21 }) s m [.ref a0, .int p0].toArray below meth c H locs 0 0 Q (F0 m 0 ls []) by rw [hH] at hgo; exact hgo
  clear hH hlo
  have hi_X4 : ∀ w ∈ wsX40, w ∈ wsX4_letter := fun w h => List.mem_cons_of_mem _ (List.mem_append_right _ (h))
  have hk_99 := hts (.fieldLink RX4 99 "NestsOfTalkModel" "letterMany" "I") (List.mem_of_getElem? (i := 1) rfl)
  have hk_22 := hts (.fieldLink RX4 22 "NestsOfTalkModel" "letters" "[I") (List.mem_of_getElem? (i := 2) rfl)
  have hI := hG.inv
  have hn9 := hI.le
  have hL96 := hG.L96
  have hM16 := hG.M16
  refine lv_iload_n hx hb dX4_letter_0 rfl (lv_at hl 1 rfl) ?_
  refine lv_if_ge (tgt := 11) hx hb dX4_letter_1 (by decide) (fun c_1 => ?_) (fun c_1 => ?_)
  · skip
    have d_1 : ¬ p0 < 0 := Int32.not_lt.2 c_1
    refine lv_iload_n hx hb dX4_letter_11 rfl (lv_at hl 1 rfl) ?_
    refine lv_sipush (v := 255) hx hb dX4_letter_12 (by decide) ?_
    refine lv_icmp_gt (tgt := 27) hx hb dX4_letter_15 (by decide) (fun c_2 => ?_) (fun c_2 => ?_)
    · skip
      have d_2 : ¬ p0 ≤ 255 := Int32.not_le.2 c_2
      refine lv_aload_n hx hb dX4_letter_27 rfl (lv_at hl 0 rfl) ?_
      refine lv_bipush (v := (-6)) hx hb dX4_letter_28 (by decide) ?_
      refine xw_Vi (As := [.int (-6)]) (rest := []) (Wn := fun u => [(a0, .inr (3, [.ref a1, .ref a2, .ref a3, .ref a4, .int gg.hs, .ref a5, .ref a6, .ref a7, .int (nI gg.L), .int (nI gg.M), .int mm.pl, .ref a8, .int mm.sd])), (a1, .inl (cI, 49, .inl gg.r)), (a2, .inl (cI, 49, .inl mm.m)), (a3, .inl (cI, 49, .inl gg.im)), (a4, .inl (cI, 49, .inl mm.ws)), (a5, .inl (cI, 96, .inl gg.lt)), (a6, .inl (cI, 16, .inl gg.rw)), (a7, .inl (cI, 7, .inl (upd gg.rf (cN (-6)) (gg.rf (cN (-6)) + 1)))), (a8, .inl (cI, 3, .inl mm.nb))]) (Wr := [(a1, .inl (cI, 49, .inl gg.r)), (a2, .inl (cI, 49, .inl mm.m)), (a3, .inl (cI, 49, .inl gg.im)), (a4, .inl (cI, 49, .inl mm.ws)), (a5, .inl (cI, 96, .inl gg.lt)), (a6, .inl (cI, 16, .inl gg.rw)), (a8, .inl (cI, 3, .inl mm.nb))]) ⟨hx, hb, hml, hown, hts⟩ (kX4_no l D cI H.size a0 a1 a2 a3 a4 a5 a6 a7 a8 gg mm (-6) okc_6) (cwV 1 hts gX4_letter_X4_no rfl rfl rfl hv_X4_no ⟨Nat.le_of_ble_eq_true rfl, Nat.le_of_ble_eq_true rfl⟩) hK hP hD hS hA [0, 7] [1, 2, 3, 4, 5, 6, 8] [7, 0, 1, 2, 3, 4, 5, 8, 6] rfl rfl (by decide) (by decide) (by decide) (by decide) (fun u => rfl) 0 rfl rfl rfl hl.1 rfl (Nat.le_of_ble_eq_true rfl) dX4_letter_30 ⟨Nat.zero_le _, Nat.zero_le _⟩ (fun r_3 u_3 H locs hw_3 hP hD hS => ?_)
      exact hret 33 _ r_3 ((gg.n, gg.r, gg.m, gg.im, gg.hs, gg.lt, gg.L, gg.rw, gg.M, (upd gg.rf (cN (-6)) (gg.rf (cN (-6)) + 1))), mm) _ _ dX4_letter_33 (by first | (simp [sp_letter, rfz, us, c_1, c_2, hw_3]; done) | (simp [sp_letter, rfz, us, c_1, c_2, hw_3, isI]; done) | (simp [sp_letter, rfz, us, c_1, c_2, hw_3, wrB, lackF]; done)) hP hD hS
    have d_2 : p0 ≤ 255 := Int32.not_lt.1 c_2
    refine lv_aload_n hx hb dX4_letter_18 rfl (lv_at hl 0 rfl) ?_
    refine va_get (D := D) (ci := 3) (v := .int (nI gg.L)) (C := RX4) (T := TX4) (N := 13) hx hb hts hi_X4 hown hK.1 hP 0 rfl rfl 8 (by decide) hk_99 (fun _ h9 => h9) rfl dX4_letter_19 ?_
    refine lv_bipush (v := 96) hx hb dX4_letter_22 (by decide) ?_
    refine lv_icmp_ne (tgt := 34) hx hb dX4_letter_24 (by decide) (fun c_4 => ?_) (fun c_4 => ?_)
    · skip
      have n_4 : ¬ gg.L = 96 := fun q => c_4 ((ni_eq (a := gg.L) (b := 96) rfl (rfl : (96 : Int32) = nI 96) (by omega) (by decide)).mpr q)
      refine lv_aload_n hx hb dX4_letter_34 rfl (lv_at hl 0 rfl) ?_
      refine va_get (D := D) (ci := 3) (v := .ref a5) (C := RX4) (T := TX4) (N := 13) hx hb hts hi_X4 hown hK.1 hP 0 rfl rfl 5 (by decide) hk_22 (fun _ h9 => h9) rfl dX4_letter_35 ?_
      refine lv_aload_n hx hb dX4_letter_38 rfl (lv_at hl 0 rfl) ?_
      refine va_get (D := D) (ci := 3) (v := .int (nI gg.L)) (C := RX4) (T := TX4) (N := 13) hx hb hts hi_X4 hown hK.1 hP 0 rfl rfl 8 (by decide) hk_99 (fun _ h9 => h9) rfl dX4_letter_39 ?_
      refine lv_iload_n hx hb dX4_letter_42 rfl (lv_at hl 1 rfl) ?_
      refine xa_st hx hb hK hP hD hS 5 rfl (j := gg.L) rfl (by omega) (by decide) dX4_letter_43 (fun H locs hP hD hS => ?_)
      obtain ⟨f_5, ef_5⟩ : ∃ z : Nat → Int32, z = upd gg.lt gg.L p0 := ⟨_, rfl⟩
      replace hP : va_P D vwCl [(a0, .inr (3, [.ref a1, .ref a2, .ref a3, .ref a4, .int gg.hs, .ref a5, .ref a6, .ref a7, .int (nI gg.L), .int (nI gg.M), .int mm.pl, .ref a8, .int mm.sd])), (a1, .inl (cI, 49, .inl gg.r)), (a2, .inl (cI, 49, .inl mm.m)), (a3, .inl (cI, 49, .inl gg.im)), (a4, .inl (cI, 49, .inl mm.ws)), (a5, .inl (cI, 96, .inl (upd gg.lt gg.L p0))), (a6, .inl (cI, 16, .inl gg.rw)), (a7, .inl (cI, 7, .inl gg.rf)), (a8, .inl (cI, 3, .inl mm.nb))] H := hP
      replace hD : va_D A [(a0, .inr (3, [.ref a1, .ref a2, .ref a3, .ref a4, .int gg.hs, .ref a5, .ref a6, .ref a7, .int (nI gg.L), .int (nI gg.M), .int mm.pl, .ref a8, .int mm.sd])), (a1, .inl (cI, 49, .inl gg.r)), (a2, .inl (cI, 49, .inl mm.m)), (a3, .inl (cI, 49, .inl gg.im)), (a4, .inl (cI, 49, .inl mm.ws)), (a5, .inl (cI, 96, .inl (upd gg.lt gg.L p0))), (a6, .inl (cI, 16, .inl gg.rw)), (a7, .inl (cI, 7, .inl gg.rf)), (a8, .inl (cI, 3, .inl mm.nb))] := hD
      rw [← ef_5] at hP hD
      refine lv_aload_n hx hb dX4_letter_44 rfl (lv_at hl 0 rfl) ?_
      refine lv_dup hx hb dX4_letter_45 rfl ?_
      refine va_get (D := D) (ci := 3) (v := .int (nI gg.L)) (C := RX4) (T := TX4) (N := 13) hx hb hts hi_X4 hown hK.1 hP 0 rfl rfl 8 (by decide) hk_99 (fun _ h9 => h9) rfl dX4_letter_46 ?_
      refine lv_iconst (v := 1) hx hb dX4_letter_49 (by decide) ?_
      refine lv_iadd hx hb dX4_letter_50 ?_
      refine lv_topi (fun z_6 ez_6 => ?_)
      obtain rfl : z_6 = nI (gg.L + 1) := ez_6.trans (ni_add (a := gg.L) (b := 1) rfl rfl (rfl : (1 : Int32) = nI 1))
      refine va_put (D := D) (ci := 3) (v := .int (nI (gg.L + 1))) (ty := .int) (C := RX4) (T := TX4) (N := 13) hx hb hts hi_X4 tyX4 tyX4_ok nmX4 hown hK.1 hP hD hS 0 rfl rfl 8 (by decide) hk_99 (fun _ h9 => h9) rfl pd_I rfl rfl (Nat.le_of_ble_eq_true rfl) dX4_letter_51 (fun H locs hP hD hS => ?_)
      have hP : va_P D vwCl [(a0, .inr (3, [.ref a1, .ref a2, .ref a3, .ref a4, .int gg.hs, .ref a5, .ref a6, .ref a7, .int (nI (gg.L + 1)), .int (nI gg.M), .int mm.pl, .ref a8, .int mm.sd])), (a1, .inl (cI, 49, .inl gg.r)), (a2, .inl (cI, 49, .inl mm.m)), (a3, .inl (cI, 49, .inl gg.im)), (a4, .inl (cI, 49, .inl mm.ws)), (a5, .inl (cI, 96, .inl f_5)), (a6, .inl (cI, 16, .inl gg.rw)), (a7, .inl (cI, 7, .inl gg.rf)), (a8, .inl (cI, 3, .inl mm.nb))] H := hP
      have hD : va_D A [(a0, .inr (3, [.ref a1, .ref a2, .ref a3, .ref a4, .int gg.hs, .ref a5, .ref a6, .ref a7, .int (nI (gg.L + 1)), .int (nI gg.M), .int mm.pl, .ref a8, .int mm.sd])), (a1, .inl (cI, 49, .inl gg.r)), (a2, .inl (cI, 49, .inl mm.m)), (a3, .inl (cI, 49, .inl gg.im)), (a4, .inl (cI, 49, .inl mm.ws)), (a5, .inl (cI, 96, .inl f_5)), (a6, .inl (cI, 16, .inl gg.rw)), (a7, .inl (cI, 7, .inl gg.rf)), (a8, .inl (cI, 3, .inl mm.nb))] := hD
      refine lv_aload_n hx hb dX4_letter_54 rfl (lv_at hl 0 rfl) ?_
      refine va_get (D := D) (ci := 3) (v := .int (nI (gg.L + 1))) (C := RX4) (T := TX4) (N := 13) hx hb hts hi_X4 hown hK.1 hP 0 rfl rfl 8 (by decide) hk_99 (fun _ h9 => h9) rfl dX4_letter_55 ?_
      exact hret 58 _ (nI (gg.L + 1)) ((gg.n, gg.r, gg.m, gg.im, gg.hs, f_5, (gg.L + 1), gg.rw, gg.M, gg.rf), mm) _ _ dX4_letter_58 (by first | (simp [sp_letter, rfz, us, c_1, c_2, c_4, n_4, ef_5]; done) | (simp [sp_letter, rfz, us, c_1, c_2, c_4, n_4, ef_5, isI]; done) | (simp [sp_letter, rfz, us, c_1, c_2, c_4, n_4, ef_5, wrB, lackF]; done)) hP hD hS
    have n_4 : gg.L = 96 := (ni_eq (a := gg.L) (b := 96) rfl (rfl : (96 : Int32) = nI 96) (by omega) (by decide)).mp c_4
    refine lv_aload_n hx hb dX4_letter_27 rfl (lv_at hl 0 rfl) ?_
    refine lv_bipush (v := (-6)) hx hb dX4_letter_28 (by decide) ?_
    refine xw_Vi (As := [.int (-6)]) (rest := []) (Wn := fun u => [(a0, .inr (3, [.ref a1, .ref a2, .ref a3, .ref a4, .int gg.hs, .ref a5, .ref a6, .ref a7, .int (nI gg.L), .int (nI gg.M), .int mm.pl, .ref a8, .int mm.sd])), (a1, .inl (cI, 49, .inl gg.r)), (a2, .inl (cI, 49, .inl mm.m)), (a3, .inl (cI, 49, .inl gg.im)), (a4, .inl (cI, 49, .inl mm.ws)), (a5, .inl (cI, 96, .inl gg.lt)), (a6, .inl (cI, 16, .inl gg.rw)), (a7, .inl (cI, 7, .inl (upd gg.rf (cN (-6)) (gg.rf (cN (-6)) + 1)))), (a8, .inl (cI, 3, .inl mm.nb))]) (Wr := [(a1, .inl (cI, 49, .inl gg.r)), (a2, .inl (cI, 49, .inl mm.m)), (a3, .inl (cI, 49, .inl gg.im)), (a4, .inl (cI, 49, .inl mm.ws)), (a5, .inl (cI, 96, .inl gg.lt)), (a6, .inl (cI, 16, .inl gg.rw)), (a8, .inl (cI, 3, .inl mm.nb))]) ⟨hx, hb, hml, hown, hts⟩ (kX4_no l D cI H.size a0 a1 a2 a3 a4 a5 a6 a7 a8 gg mm (-6) okc_6) (cwV 1 hts gX4_letter_X4_no rfl rfl rfl hv_X4_no ⟨Nat.le_of_ble_eq_true rfl, Nat.le_of_ble_eq_true rfl⟩) hK hP hD hS hA [0, 7] [1, 2, 3, 4, 5, 6, 8] [7, 0, 1, 2, 3, 4, 5, 8, 6] rfl rfl (by decide) (by decide) (by decide) (by decide) (fun u => rfl) 0 rfl rfl rfl hl.1 rfl (Nat.le_of_ble_eq_true rfl) dX4_letter_30 ⟨Nat.zero_le _, Nat.zero_le _⟩ (fun r_7 u_7 H locs hw_7 hP hD hS => ?_)
    exact hret 33 _ r_7 ((gg.n, gg.r, gg.m, gg.im, gg.hs, gg.lt, gg.L, gg.rw, gg.M, (upd gg.rf (cN (-6)) (gg.rf (cN (-6)) + 1))), mm) _ _ dX4_letter_33 (by first | (simp [sp_letter, rfz, us, c_1, c_2, c_4, n_4, hw_7]; done) | (simp [sp_letter, rfz, us, c_1, c_2, c_4, n_4, hw_7, isI]; done) | (simp [sp_letter, rfz, us, c_1, c_2, c_4, n_4, hw_7, wrB, lackF]; done)) hP hD hS
  have d_1 : p0 < 0 := Int32.not_le.1 c_1
  refine lv_aload_n hx hb dX4_letter_4 rfl (lv_at hl 0 rfl) ?_
  refine lv_bipush (v := (-4)) hx hb dX4_letter_5 (by decide) ?_
  refine xw_Vi (As := [.int (-4)]) (rest := []) (Wn := fun u => [(a0, .inr (3, [.ref a1, .ref a2, .ref a3, .ref a4, .int gg.hs, .ref a5, .ref a6, .ref a7, .int (nI gg.L), .int (nI gg.M), .int mm.pl, .ref a8, .int mm.sd])), (a1, .inl (cI, 49, .inl gg.r)), (a2, .inl (cI, 49, .inl mm.m)), (a3, .inl (cI, 49, .inl gg.im)), (a4, .inl (cI, 49, .inl mm.ws)), (a5, .inl (cI, 96, .inl gg.lt)), (a6, .inl (cI, 16, .inl gg.rw)), (a7, .inl (cI, 7, .inl (upd gg.rf (cN (-4)) (gg.rf (cN (-4)) + 1)))), (a8, .inl (cI, 3, .inl mm.nb))]) (Wr := [(a1, .inl (cI, 49, .inl gg.r)), (a2, .inl (cI, 49, .inl mm.m)), (a3, .inl (cI, 49, .inl gg.im)), (a4, .inl (cI, 49, .inl mm.ws)), (a5, .inl (cI, 96, .inl gg.lt)), (a6, .inl (cI, 16, .inl gg.rw)), (a8, .inl (cI, 3, .inl mm.nb))]) ⟨hx, hb, hml, hown, hts⟩ (kX4_no l D cI H.size a0 a1 a2 a3 a4 a5 a6 a7 a8 gg mm (-4) okc_4) (cwV 1 hts gX4_letter_X4_no rfl rfl rfl hv_X4_no ⟨Nat.le_of_ble_eq_true rfl, Nat.le_of_ble_eq_true rfl⟩) hK hP hD hS hA [0, 7] [1, 2, 3, 4, 5, 6, 8] [7, 0, 1, 2, 3, 4, 5, 8, 6] rfl rfl (by decide) (by decide) (by decide) (by decide) (fun u => rfl) 0 rfl rfl rfl hl.1 rfl (Nat.le_of_ble_eq_true rfl) dX4_letter_7 ⟨Nat.zero_le _, Nat.zero_le _⟩ (fun r_8 u_8 H locs hw_8 hP hD hS => ?_)
  exact hret 10 _ r_8 ((gg.n, gg.r, gg.m, gg.im, gg.hs, gg.lt, gg.L, gg.rw, gg.M, (upd gg.rf (cN (-4)) (gg.rf (cN (-4)) + 1))), mm) _ _ dX4_letter_10 (by first | (simp [sp_letter, rfz, us, c_1, hw_8]; done) | (simp [sp_letter, rfz, us, c_1, hw_8, isI]; done) | (simp [sp_letter, rfz, us, c_1, hw_8, wrB, lackF]; done)) hP hD hS

set_option maxHeartbeats 4000000 in
set_option maxRecDepth 100000 in
theorem kX4_saying (l : Launch) (D : va_G) (cI : ClassId) (sz : Nat) (a0 a1 a2 a3 a4 a5 a6 a7 a8 : Nat) (gg : GG) (mm : MS) (hG : Good gg) (p0 p1 : Int32) : Met l yX4_saying wsX4_saying ({ frames := 4, cells := 0, slots := 0, locals := 89 }) (PRW D cI [.ref a0, .int p0, .int p1] [(a0, .inr (3, [.ref a1, .ref a2, .ref a3, .ref a4, .int gg.hs, .ref a5, .ref a6, .ref a7, .int (nI gg.L), .int (nI gg.M), .int mm.pl, .ref a8, .int mm.sd])), (a1, .inl (cI, 49, .inl gg.r)), (a2, .inl (cI, 49, .inl mm.m)), (a3, .inl (cI, 49, .inl gg.im)), (a4, .inl (cI, 49, .inl mm.ws)), (a5, .inl (cI, 96, .inl gg.lt)), (a6, .inl (cI, 16, .inl gg.rw)), (a7, .inl (cI, 7, .inl gg.rf)), (a8, .inl (cI, 3, .inl mm.nb))] sz) (va_Qi (S := GG × MS) (fun v u => (v, u.1) = sp_saying gg p0 p1) (BRW D [(a0, .inr (3, [.ref a1, .ref a2, .ref a3, .ref a4, .int gg.hs, .ref a5, .ref a6, .ref a7, .int (nI gg.L), .int (nI gg.M), .int mm.pl, .ref a8, .int mm.sd])), (a1, .inl (cI, 49, .inl gg.r)), (a2, .inl (cI, 49, .inl mm.m)), (a3, .inl (cI, 49, .inl gg.im)), (a4, .inl (cI, 49, .inl mm.ws)), (a5, .inl (cI, 96, .inl gg.lt)), (a6, .inl (cI, 16, .inl gg.rw)), (a7, .inl (cI, 7, .inl gg.rf)), (a8, .inl (cI, 3, .inl mm.nb))] sz (fun u => [(a0, .inr (3, [.ref a1, .ref a2, .ref a3, .ref a4, .int u.1.hs, .ref a5, .ref a6, .ref a7, .int (nI u.1.L), .int (nI u.1.M), .int u.2.pl, .ref a8, .int u.2.sd])), (a1, .inl (cI, 49, .inl u.1.r)), (a2, .inl (cI, 49, .inl u.2.m)), (a3, .inl (cI, 49, .inl u.1.im)), (a4, .inl (cI, 49, .inl u.2.ws)), (a5, .inl (cI, 96, .inl u.1.lt)), (a6, .inl (cI, 16, .inl u.1.rw)), (a7, .inl (cI, 7, .inl u.1.rf)), (a8, .inl (cI, 3, .inl u.2.nb))])) (va_A [(a0, .inr (3, [.ref a1, .ref a2, .ref a3, .ref a4, .int gg.hs, .ref a5, .ref a6, .ref a7, .int (nI gg.L), .int (nI gg.M), .int mm.pl, .ref a8, .int mm.sd])), (a1, .inl (cI, 49, .inl gg.r)), (a2, .inl (cI, 49, .inl mm.m)), (a3, .inl (cI, 49, .inl gg.im)), (a4, .inl (cI, 49, .inl mm.ws)), (a5, .inl (cI, 96, .inl gg.lt)), (a6, .inl (cI, 16, .inl gg.rw)), (a7, .inl (cI, 7, .inl gg.rf)), (a8, .inl (cI, 3, .inl mm.nb))] sz)) 0 0 (va_A [(a0, .inr (3, [.ref a1, .ref a2, .ref a3, .ref a4, .int gg.hs, .ref a5, .ref a6, .ref a7, .int (nI gg.L), .int (nI gg.M), .int mm.pl, .ref a8, .int mm.sd])), (a1, .inl (cI, 49, .inl gg.r)), (a2, .inl (cI, 49, .inl mm.m)), (a3, .inl (cI, 49, .inl gg.im)), (a4, .inl (cI, 49, .inl mm.ws)), (a5, .inl (cI, 96, .inl gg.lt)), (a6, .inl (cI, 16, .inl gg.rw)), (a7, .inl (cI, 7, .inl gg.rf)), (a8, .inl (cI, 3, .inl mm.nb))] sz) := by
  refine st_rwi (cc := cX4_saying) (maxL := 3) (rt := .int) (by decide) rfl (Nat.le_of_ble_eq_true rfl) (fun _ _ _ => rfl) ?_
  intro p e s m below meth c Q ls A hx hb hml hts hown hP hK hD hA hS hl hret
  replace hown : s.vm.findClass RX4 = some m.cls := hown
  replace hl : lv_has ls 3 [(0, .ref a0), (1, .int p0), (2, .int p1)] := hl
  obtain ⟨H, hH⟩ : ∃ z, z = s.heap := ⟨_, rfl⟩
  obtain ⟨locs, hlo⟩ : ∃ z : List Loc, z = [] := ⟨_, rfl⟩
  replace hP : va_P D vwCl [(a0, .inr (3, [.ref a1, .ref a2, .ref a3, .ref a4, .int gg.hs, .ref a5, .ref a6, .ref a7, .int (nI gg.L), .int (nI gg.M), .int mm.pl, .ref a8, .int mm.sd])), (a1, .inl (cI, 49, .inl gg.r)), (a2, .inl (cI, 49, .inl mm.m)), (a3, .inl (cI, 49, .inl gg.im)), (a4, .inl (cI, 49, .inl mm.ws)), (a5, .inl (cI, 96, .inl gg.lt)), (a6, .inl (cI, 16, .inl gg.rw)), (a7, .inl (cI, 7, .inl gg.rf)), (a8, .inl (cI, 3, .inl mm.nb))] H := by rw [hH]; exact hP
  replace hS : va_S A s.heap H locs := by rw [hH, hlo]; exact hS
  show W p l e ({ frames := 4, cells := 0, slots := 0, locals := 89 }) s m [.ref a0, .int p0, .int p1].toArray below meth c s.heap [] 0 0 Q (F0 m 0 ls [])
  rw [← hlo]
  suffices hgo : W p l e ({ frames := 4, cells := 0, slots := 0, locals := 89 }) s m [.ref a0, .int p0, .int p1].toArray below meth c H locs 0 0 Q (F0 m 0 ls []) by rw [hH] at hgo; exact hgo
  clear hH hlo
  have hi_X4 : ∀ w ∈ wsX40, w ∈ wsX4_saying := fun w h => List.mem_cons_of_mem _ (List.mem_append_right _ (h))
  have hk_9 := hts (.fieldLink RX4 9 "NestsOfTalkModel" "s" "[I") (List.mem_of_getElem? (i := 1) rfl)
  have hI := hG.inv
  have hn9 := hI.le
  have hL96 := hG.L96
  have hM16 := hG.M16
  refine lv_aload_n hx hb dX4_saying_0 rfl (lv_at hl 0 rfl) ?_
  refine lv_iload_n hx hb dX4_saying_1 rfl (lv_at hl 1 rfl) ?_
  refine xc_Vi (As := [.int p0]) (rest := []) ⟨hx, hb, hml, hown, hts⟩ (kX4_isSaying l D cI a0 a1 a2 a3 a4 a5 a6 a7 a8 gg mm gg.n hI p0) (cwV 1 hts gX4_saying_X4_isSaying rfl rfl rfl hv_X4_isSaying ⟨Nat.le_of_ble_eq_true rfl, Nat.le_of_ble_eq_true rfl⟩) hK hP [0, 1] rfl 0 rfl rfl rfl hl.1 rfl (Nat.le_of_ble_eq_true rfl) dX4_saying_2 ⟨Nat.zero_le _, Nat.zero_le _⟩ (fun r_1 hr_1 => ?_)
  refine lv_if_ne (tgt := 14) hx hb dX4_saying_5 (by decide) (fun c_2 => ?_) (fun c_2 => ?_)
  · skip
    have hb_2 : sayB gg.n p0 = true := bool_t hr_1 c_2
    obtain ⟨t_2, ht_2, et_2⟩ := (sayB_iff (hI).le).1 hb_2
    have tn_2 : tN p0 = t_2 := by rw [et_2]; exact tN_nI (by omega)
    refine lv_iload_n hx hb dX4_saying_14 rfl (lv_at hl 2 rfl) ?_
    refine lv_iconst (v := 0) hx hb dX4_saying_15 (by decide) ?_
    refine lv_iconst (v := 4) hx hb dX4_saying_16 (by decide) ?_
    refine xc_Si (As := [.int p1, .int 0, .int 4]) (rest := []) ⟨hx, hb, hml, hown, hts⟩ (kX4_isIn l D cI p1 0 4) (va_cwS 3 hts gX4_saying_X4_isIn rfl rfl rfl hs_X4_isIn ⟨Nat.le_of_ble_eq_true rfl, Nat.le_of_ble_eq_true rfl⟩) hK hP [] rfl rfl hl.1 rfl (Nat.le_of_ble_eq_true rfl) dX4_saying_17 ⟨Nat.zero_le _, Nat.zero_le _⟩ (fun r_3 hr_3 => ?_)
    refine lv_if_eq (tgt := 34) hx hb dX4_saying_20 (by decide) (fun c_4 => ?_) (fun c_4 => ?_)
    · skip
      have hb_4 : isI p1 0 4 = false := bool_f (hr_3.trans isI_ite) c_4
      refine lv_iload_n hx hb dX4_saying_34 rfl (lv_at hl 2 rfl) ?_
      refine lv_iconst (v := 5) hx hb dX4_saying_35 (by decide) ?_
      refine lv_bipush (v := 7) hx hb dX4_saying_36 (by decide) ?_
      refine xc_Si (As := [.int p1, .int 5, .int 7]) (rest := []) ⟨hx, hb, hml, hown, hts⟩ (kX4_isIn l D cI p1 5 7) (va_cwS 3 hts gX4_saying_X4_isIn rfl rfl rfl hs_X4_isIn ⟨Nat.le_of_ble_eq_true rfl, Nat.le_of_ble_eq_true rfl⟩) hK hP [] rfl rfl hl.1 rfl (Nat.le_of_ble_eq_true rfl) dX4_saying_38 ⟨Nat.zero_le _, Nat.zero_le _⟩ (fun r_5 hr_5 => ?_)
      refine lv_if_eq (tgt := 60) hx hb dX4_saying_41 (by decide) (fun c_6 => ?_) (fun c_6 => ?_)
      · skip
        have hb_6 : isI p1 5 7 = false := bool_f (hr_5.trans isI_ite) c_6
        refine lv_aload_n hx hb dX4_saying_60 rfl (lv_at hl 0 rfl) ?_
        refine lv_bipush (v := (-2)) hx hb dX4_saying_61 (by decide) ?_
        refine xw_Vi (As := [.int (-2)]) (rest := []) (Wn := fun u => [(a0, .inr (3, [.ref a1, .ref a2, .ref a3, .ref a4, .int gg.hs, .ref a5, .ref a6, .ref a7, .int (nI gg.L), .int (nI gg.M), .int mm.pl, .ref a8, .int mm.sd])), (a1, .inl (cI, 49, .inl gg.r)), (a2, .inl (cI, 49, .inl mm.m)), (a3, .inl (cI, 49, .inl gg.im)), (a4, .inl (cI, 49, .inl mm.ws)), (a5, .inl (cI, 96, .inl gg.lt)), (a6, .inl (cI, 16, .inl gg.rw)), (a7, .inl (cI, 7, .inl (upd gg.rf (cN (-2)) (gg.rf (cN (-2)) + 1)))), (a8, .inl (cI, 3, .inl mm.nb))]) (Wr := [(a1, .inl (cI, 49, .inl gg.r)), (a2, .inl (cI, 49, .inl mm.m)), (a3, .inl (cI, 49, .inl gg.im)), (a4, .inl (cI, 49, .inl mm.ws)), (a5, .inl (cI, 96, .inl gg.lt)), (a6, .inl (cI, 16, .inl gg.rw)), (a8, .inl (cI, 3, .inl mm.nb))]) ⟨hx, hb, hml, hown, hts⟩ (kX4_no l D cI H.size a0 a1 a2 a3 a4 a5 a6 a7 a8 gg mm (-2) okc_2) (cwV 1 hts gX4_saying_X4_no rfl rfl rfl hv_X4_no ⟨Nat.le_of_ble_eq_true rfl, Nat.le_of_ble_eq_true rfl⟩) hK hP hD hS hA [0, 7] [1, 2, 3, 4, 5, 6, 8] [7, 0, 1, 2, 3, 4, 5, 8, 6] rfl rfl (by decide) (by decide) (by decide) (by decide) (fun u => rfl) 0 rfl rfl rfl hl.1 rfl (Nat.le_of_ble_eq_true rfl) dX4_saying_63 ⟨Nat.zero_le _, Nat.zero_le _⟩ (fun r_7 u_7 H locs hw_7 hP hD hS => ?_)
        exact hret 66 _ r_7 ((gg.n, gg.r, gg.m, gg.im, gg.hs, gg.lt, gg.L, gg.rw, gg.M, (upd gg.rf (cN (-2)) (gg.rf (cN (-2)) + 1))), mm) _ _ dX4_saying_66 (by first | (simp [sp_saying, rfz, us, c_2, c_4, c_6, hb_2, tn_2, hb_4, hb_6, hw_7]; done) | (simp [sp_saying, rfz, us, c_2, c_4, c_6, hb_2, tn_2, hb_4, hb_6, hw_7, isI]; done) | (simp [sp_saying, rfz, us, c_2, c_4, c_6, hb_2, tn_2, hb_4, hb_6, hw_7, wrB, lackF]; done)) hP hD hS
      have hb_6 : isI p1 5 7 = true := bool_t (hr_5.trans isI_ite) c_6
      obtain ⟨i_6, il_6, iu_6, ei_6⟩ := isI_nat (a := 5) (b := 7) (rfl : (5 : Int32) = nI 5) (rfl : (7 : Int32) = nI 7) (by decide) (by omega) hb_6
      have tn_6 : tN p1 = i_6 := by rw [ei_6]; exact tN_nI (by omega)
      refine lv_aload_n hx hb dX4_saying_44 rfl (lv_at hl 0 rfl) ?_
      refine va_get (D := D) (ci := 3) (v := .ref a1) (C := RX4) (T := TX4) (N := 13) hx hb hts hi_X4 hown hK.1 hP 0 rfl rfl 0 (by decide) hk_9 (fun _ h9 => h9) rfl dX4_saying_45 ?_
      refine lv_iconst (v := 1) hx hb dX4_saying_48 (by decide) ?_
      refine lv_iload_n hx hb dX4_saying_49 rfl (lv_at hl 1 rfl) ?_
      refine lv_ishl hx hb dX4_saying_50 ?_
      refine lv_iload_n hx hb dX4_saying_51 rfl (lv_at hl 2 rfl) ?_
      refine lv_iconst (v := 4) hx hb dX4_saying_52 (by decide) ?_
      refine lv_isub hx hb dX4_saying_53 ?_
      refine xc_Si (As := [.ref a1, .int (1 <<< (p0 &&& 31)), .int (p1 - 4)]) (rest := []) ⟨hx, hb, hml, hown, hts⟩ (kX4_sumOf l D cI a1 gg.r gg.n hI (1 <<< (p0 &&& 31)) (p1 - 4)) (va_cwS 3 hts gX4_saying_X4_sumOf rfl rfl rfl hs_X4_sumOf ⟨Nat.le_of_ble_eq_true rfl, Nat.le_of_ble_eq_true rfl⟩) hK hP [1] rfl rfl hl.1 rfl (Nat.le_of_ble_eq_true rfl) dX4_saying_54 ⟨Nat.zero_le _, Nat.zero_le _⟩ (fun r_8 hr_8 => ?_)
      refine lv_goto (tgt := 66) hx hb dX4_saying_57 (by decide) ?_
      exact hret 66 _ r_8 (gg, mm) _ _ dX4_saying_66 (by first | (simp [sp_saying, rfz, us, c_2, c_4, c_6, hb_2, tn_2, hb_4, hb_6, tn_6, hr_8]; done) | (simp [sp_saying, rfz, us, c_2, c_4, c_6, hb_2, tn_2, hb_4, hb_6, tn_6, hr_8, isI]; done) | (simp [sp_saying, rfz, us, c_2, c_4, c_6, hb_2, tn_2, hb_4, hb_6, tn_6, hr_8, wrB, lackF]; done)) hP hD hS
    have hb_4 : isI p1 0 4 = true := bool_t (hr_3.trans isI_ite) c_4
    obtain ⟨i_4, il_4, iu_4, ei_4⟩ := isI_nat (a := 0) (b := 4) (rfl : (0 : Int32) = nI 0) (rfl : (4 : Int32) = nI 4) (by decide) (by omega) hb_4
    have tn_4 : tN p1 = i_4 := by rw [ei_4]; exact tN_nI (by omega)
    refine lv_aload_n hx hb dX4_saying_23 rfl (lv_at hl 0 rfl) ?_
    refine va_get (D := D) (ci := 3) (v := .ref a1) (C := RX4) (T := TX4) (N := 13) hx hb hts hi_X4 hown hK.1 hP 0 rfl rfl 0 (by decide) hk_9 (fun _ h9 => h9) rfl dX4_saying_24 ?_
    refine lv_iload_n hx hb dX4_saying_27 rfl (lv_at hl 1 rfl) ?_
    refine lv_iload_n hx hb dX4_saying_28 rfl (lv_at hl 2 rfl) ?_
    refine xc_Si (As := [.int p0, .int p1]) (rest := [.ref a1]) ⟨hx, hb, hml, hown, hts⟩ (kX4_of l D cI p0 p1 t_2 i_4 et_2 ei_4) (va_cwS 2 hts gX4_saying_X4_of rfl rfl rfl hs_X4_of ⟨Nat.le_of_ble_eq_true rfl, Nat.le_of_ble_eq_true rfl⟩) hK hP [] rfl rfl hl.1 rfl (Nat.le_of_ble_eq_true rfl) dX4_saying_29 ⟨Nat.zero_le _, Nat.zero_le _⟩ (fun r_9 hr_9 => ?_)
    refine xa_ld hx hb hK hP 1 rfl (j := (oF t_2 i_4)) hr_9 (oF_lt (by omega) (by omega)) (by decide) dX4_saying_32 ?_
    exact hret 33 _ (gg.r (oF t_2 i_4)) (gg, mm) _ _ dX4_saying_33 (by first | (simp [sp_saying, rfz, us, c_2, c_4, hb_2, tn_2, hb_4, tn_4, hr_9]; done) | (simp [sp_saying, rfz, us, c_2, c_4, hb_2, tn_2, hb_4, tn_4, hr_9, isI]; done) | (simp [sp_saying, rfz, us, c_2, c_4, hb_2, tn_2, hb_4, tn_4, hr_9, wrB, lackF]; done)) hP hD hS
  have hb_2 : sayB gg.n p0 = false := bool_f hr_1 c_2
  refine lv_aload_n hx hb dX4_saying_8 rfl (lv_at hl 0 rfl) ?_
  refine lv_iconst (v := (-1)) hx hb dX4_saying_9 (by decide) ?_
  refine xw_Vi (As := [.int (-1)]) (rest := []) (Wn := fun u => [(a0, .inr (3, [.ref a1, .ref a2, .ref a3, .ref a4, .int gg.hs, .ref a5, .ref a6, .ref a7, .int (nI gg.L), .int (nI gg.M), .int mm.pl, .ref a8, .int mm.sd])), (a1, .inl (cI, 49, .inl gg.r)), (a2, .inl (cI, 49, .inl mm.m)), (a3, .inl (cI, 49, .inl gg.im)), (a4, .inl (cI, 49, .inl mm.ws)), (a5, .inl (cI, 96, .inl gg.lt)), (a6, .inl (cI, 16, .inl gg.rw)), (a7, .inl (cI, 7, .inl (upd gg.rf (cN (-1)) (gg.rf (cN (-1)) + 1)))), (a8, .inl (cI, 3, .inl mm.nb))]) (Wr := [(a1, .inl (cI, 49, .inl gg.r)), (a2, .inl (cI, 49, .inl mm.m)), (a3, .inl (cI, 49, .inl gg.im)), (a4, .inl (cI, 49, .inl mm.ws)), (a5, .inl (cI, 96, .inl gg.lt)), (a6, .inl (cI, 16, .inl gg.rw)), (a8, .inl (cI, 3, .inl mm.nb))]) ⟨hx, hb, hml, hown, hts⟩ (kX4_no l D cI H.size a0 a1 a2 a3 a4 a5 a6 a7 a8 gg mm (-1) okc_1) (cwV 1 hts gX4_saying_X4_no rfl rfl rfl hv_X4_no ⟨Nat.le_of_ble_eq_true rfl, Nat.le_of_ble_eq_true rfl⟩) hK hP hD hS hA [0, 7] [1, 2, 3, 4, 5, 6, 8] [7, 0, 1, 2, 3, 4, 5, 8, 6] rfl rfl (by decide) (by decide) (by decide) (by decide) (fun u => rfl) 0 rfl rfl rfl hl.1 rfl (Nat.le_of_ble_eq_true rfl) dX4_saying_10 ⟨Nat.zero_le _, Nat.zero_le _⟩ (fun r_10 u_10 H locs hw_10 hP hD hS => ?_)
  exact hret 13 _ r_10 ((gg.n, gg.r, gg.m, gg.im, gg.hs, gg.lt, gg.L, gg.rw, gg.M, (upd gg.rf (cN (-1)) (gg.rf (cN (-1)) + 1))), mm) _ _ dX4_saying_13 (by first | (simp [sp_saying, rfz, us, c_2, hb_2, hw_10]; done) | (simp [sp_saying, rfz, us, c_2, hb_2, hw_10, isI]; done) | (simp [sp_saying, rfz, us, c_2, hb_2, hw_10, wrB, lackF]; done)) hP hD hS

set_option maxHeartbeats 4000000 in
set_option maxRecDepth 100000 in
theorem kX4_takes (l : Launch) (D : va_G) (cI : ClassId) (sz : Nat) (a0 a1 a2 a3 a4 a5 a6 a7 a8 : Nat) (gg : GG) (mm : MS) (hG : Good gg) (p0 : Int32) : Met l yX4_takes wsX4_takes ({ frames := 2, cells := 0, slots := 0, locals := 43 }) (PRW D cI [.ref a0, .int p0] [(a0, .inr (3, [.ref a1, .ref a2, .ref a3, .ref a4, .int gg.hs, .ref a5, .ref a6, .ref a7, .int (nI gg.L), .int (nI gg.M), .int mm.pl, .ref a8, .int mm.sd])), (a1, .inl (cI, 49, .inl gg.r)), (a2, .inl (cI, 49, .inl mm.m)), (a3, .inl (cI, 49, .inl gg.im)), (a4, .inl (cI, 49, .inl mm.ws)), (a5, .inl (cI, 96, .inl gg.lt)), (a6, .inl (cI, 16, .inl gg.rw)), (a7, .inl (cI, 7, .inl gg.rf)), (a8, .inl (cI, 3, .inl mm.nb))] sz) (va_Qi (S := GG × MS) (fun v u => (v, u.1) = sp_takes gg p0) (BRW D [(a0, .inr (3, [.ref a1, .ref a2, .ref a3, .ref a4, .int gg.hs, .ref a5, .ref a6, .ref a7, .int (nI gg.L), .int (nI gg.M), .int mm.pl, .ref a8, .int mm.sd])), (a1, .inl (cI, 49, .inl gg.r)), (a2, .inl (cI, 49, .inl mm.m)), (a3, .inl (cI, 49, .inl gg.im)), (a4, .inl (cI, 49, .inl mm.ws)), (a5, .inl (cI, 96, .inl gg.lt)), (a6, .inl (cI, 16, .inl gg.rw)), (a7, .inl (cI, 7, .inl gg.rf)), (a8, .inl (cI, 3, .inl mm.nb))] sz (fun u => [(a0, .inr (3, [.ref a1, .ref a2, .ref a3, .ref a4, .int u.1.hs, .ref a5, .ref a6, .ref a7, .int (nI u.1.L), .int (nI u.1.M), .int u.2.pl, .ref a8, .int u.2.sd])), (a1, .inl (cI, 49, .inl u.1.r)), (a2, .inl (cI, 49, .inl u.2.m)), (a3, .inl (cI, 49, .inl u.1.im)), (a4, .inl (cI, 49, .inl u.2.ws)), (a5, .inl (cI, 96, .inl u.1.lt)), (a6, .inl (cI, 16, .inl u.1.rw)), (a7, .inl (cI, 7, .inl u.1.rf)), (a8, .inl (cI, 3, .inl u.2.nb))])) (va_A [(a0, .inr (3, [.ref a1, .ref a2, .ref a3, .ref a4, .int gg.hs, .ref a5, .ref a6, .ref a7, .int (nI gg.L), .int (nI gg.M), .int mm.pl, .ref a8, .int mm.sd])), (a1, .inl (cI, 49, .inl gg.r)), (a2, .inl (cI, 49, .inl mm.m)), (a3, .inl (cI, 49, .inl gg.im)), (a4, .inl (cI, 49, .inl mm.ws)), (a5, .inl (cI, 96, .inl gg.lt)), (a6, .inl (cI, 16, .inl gg.rw)), (a7, .inl (cI, 7, .inl gg.rf)), (a8, .inl (cI, 3, .inl mm.nb))] sz)) 0 0 (va_A [(a0, .inr (3, [.ref a1, .ref a2, .ref a3, .ref a4, .int gg.hs, .ref a5, .ref a6, .ref a7, .int (nI gg.L), .int (nI gg.M), .int mm.pl, .ref a8, .int mm.sd])), (a1, .inl (cI, 49, .inl gg.r)), (a2, .inl (cI, 49, .inl mm.m)), (a3, .inl (cI, 49, .inl gg.im)), (a4, .inl (cI, 49, .inl mm.ws)), (a5, .inl (cI, 96, .inl gg.lt)), (a6, .inl (cI, 16, .inl gg.rw)), (a7, .inl (cI, 7, .inl gg.rf)), (a8, .inl (cI, 3, .inl mm.nb))] sz) := by
  refine st_rwi (cc := cX4_takes) (maxL := 2) (rt := .int) (by decide) rfl (Nat.le_of_ble_eq_true rfl) (fun _ _ _ => rfl) ?_
  intro p e s m below meth c Q ls A hx hb hml hts hown hP hK hD hA hS hl hret
  replace hown : s.vm.findClass RX4 = some m.cls := hown
  replace hl : lv_has ls 2 [(0, .ref a0), (1, .int p0)] := hl
  obtain ⟨H, hH⟩ : ∃ z, z = s.heap := ⟨_, rfl⟩
  obtain ⟨locs, hlo⟩ : ∃ z : List Loc, z = [] := ⟨_, rfl⟩
  replace hP : va_P D vwCl [(a0, .inr (3, [.ref a1, .ref a2, .ref a3, .ref a4, .int gg.hs, .ref a5, .ref a6, .ref a7, .int (nI gg.L), .int (nI gg.M), .int mm.pl, .ref a8, .int mm.sd])), (a1, .inl (cI, 49, .inl gg.r)), (a2, .inl (cI, 49, .inl mm.m)), (a3, .inl (cI, 49, .inl gg.im)), (a4, .inl (cI, 49, .inl mm.ws)), (a5, .inl (cI, 96, .inl gg.lt)), (a6, .inl (cI, 16, .inl gg.rw)), (a7, .inl (cI, 7, .inl gg.rf)), (a8, .inl (cI, 3, .inl mm.nb))] H := by rw [hH]; exact hP
  replace hS : va_S A s.heap H locs := by rw [hH, hlo]; exact hS
  show W p l e ({ frames := 2, cells := 0, slots := 0, locals := 43 }) s m [.ref a0, .int p0].toArray below meth c s.heap [] 0 0 Q (F0 m 0 ls [])
  rw [← hlo]
  suffices hgo : W p l e ({ frames := 2, cells := 0, slots := 0, locals := 43 }) s m [.ref a0, .int p0].toArray below meth c H locs 0 0 Q (F0 m 0 ls []) by rw [hH] at hgo; exact hgo
  clear hH hlo
  have hi_X4 : ∀ w ∈ wsX40, w ∈ wsX4_takes := fun w h => List.mem_cons_of_mem _ (List.mem_append_right _ (h))
  have hk_9 := hts (.fieldLink RX4 9 "NestsOfTalkModel" "s" "[I") (List.mem_of_getElem? (i := 1) rfl)
  have hI := hG.inv
  have hn9 := hI.le
  have hL96 := hG.L96
  have hM16 := hG.M16
  refine lv_aload_n hx hb dX4_takes_0 rfl (lv_at hl 0 rfl) ?_
  refine lv_iload_n hx hb dX4_takes_1 rfl (lv_at hl 1 rfl) ?_
  refine xc_Vi (As := [.int p0]) (rest := []) ⟨hx, hb, hml, hown, hts⟩ (kX4_isSaying l D cI a0 a1 a2 a3 a4 a5 a6 a7 a8 gg mm gg.n hI p0) (cwV 1 hts gX4_takes_X4_isSaying rfl rfl rfl hv_X4_isSaying ⟨Nat.le_of_ble_eq_true rfl, Nat.le_of_ble_eq_true rfl⟩) hK hP [0, 1] rfl 0 rfl rfl rfl hl.1 rfl (Nat.le_of_ble_eq_true rfl) dX4_takes_2 ⟨Nat.zero_le _, Nat.zero_le _⟩ (fun r_1 hr_1 => ?_)
  refine lv_if_ne (tgt := 14) hx hb dX4_takes_5 (by decide) (fun c_2 => ?_) (fun c_2 => ?_)
  · skip
    have hb_2 : sayB gg.n p0 = true := bool_t hr_1 c_2
    obtain ⟨t_2, ht_2, et_2⟩ := (sayB_iff (hI).le).1 hb_2
    have tn_2 : tN p0 = t_2 := by rw [et_2]; exact tN_nI (by omega)
    refine lv_aload_n hx hb dX4_takes_14 rfl (lv_at hl 0 rfl) ?_
    refine va_get (D := D) (ci := 3) (v := .ref a1) (C := RX4) (T := TX4) (N := 13) hx hb hts hi_X4 hown hK.1 hP 0 rfl rfl 0 (by decide) hk_9 (fun _ h9 => h9) rfl dX4_takes_15 ?_
    refine lv_iload_n hx hb dX4_takes_18 rfl (lv_at hl 1 rfl) ?_
    refine lv_iconst (v := 4) hx hb dX4_takes_19 (by decide) ?_
    refine xc_Si (As := [.int p0, .int 4]) (rest := [.ref a1]) ⟨hx, hb, hml, hown, hts⟩ (kX4_of l D cI p0 4 t_2 4 et_2 (rfl : (4 : Int32) = nI 4)) (va_cwS 2 hts gX4_takes_X4_of rfl rfl rfl hs_X4_of ⟨Nat.le_of_ble_eq_true rfl, Nat.le_of_ble_eq_true rfl⟩) hK hP [] rfl rfl hl.1 rfl (Nat.le_of_ble_eq_true rfl) dX4_takes_20 ⟨Nat.zero_le _, Nat.zero_le _⟩ (fun r_3 hr_3 => ?_)
    refine lv_dup2_11 hx hb dX4_takes_23 rfl rfl ?_
    refine xa_ld hx hb hK hP 1 rfl (j := (oF t_2 4)) hr_3 (oF_lt (by omega) (by omega)) (by decide) dX4_takes_24 ?_
    refine lv_iconst (v := 1) hx hb dX4_takes_25 (by decide) ?_
    refine lv_ixor hx hb dX4_takes_26 ?_
    refine xa_st hx hb hK hP hD hS 1 rfl (j := (oF t_2 4)) hr_3 (oF_lt (by omega) (by omega)) (by decide) dX4_takes_27 (fun H locs hP hD hS => ?_)
    obtain ⟨f_4, ef_4⟩ : ∃ z : Nat → Int32, z = upd gg.r (oF t_2 4) ((gg.r (oF t_2 4)) ^^^ 1) := ⟨_, rfl⟩
    replace hP : va_P D vwCl [(a0, .inr (3, [.ref a1, .ref a2, .ref a3, .ref a4, .int gg.hs, .ref a5, .ref a6, .ref a7, .int (nI gg.L), .int (nI gg.M), .int mm.pl, .ref a8, .int mm.sd])), (a1, .inl (cI, 49, .inl (upd gg.r (oF t_2 4) ((gg.r (oF t_2 4)) ^^^ 1)))), (a2, .inl (cI, 49, .inl mm.m)), (a3, .inl (cI, 49, .inl gg.im)), (a4, .inl (cI, 49, .inl mm.ws)), (a5, .inl (cI, 96, .inl gg.lt)), (a6, .inl (cI, 16, .inl gg.rw)), (a7, .inl (cI, 7, .inl gg.rf)), (a8, .inl (cI, 3, .inl mm.nb))] H := hP
    replace hD : va_D A [(a0, .inr (3, [.ref a1, .ref a2, .ref a3, .ref a4, .int gg.hs, .ref a5, .ref a6, .ref a7, .int (nI gg.L), .int (nI gg.M), .int mm.pl, .ref a8, .int mm.sd])), (a1, .inl (cI, 49, .inl (upd gg.r (oF t_2 4) ((gg.r (oF t_2 4)) ^^^ 1)))), (a2, .inl (cI, 49, .inl mm.m)), (a3, .inl (cI, 49, .inl gg.im)), (a4, .inl (cI, 49, .inl mm.ws)), (a5, .inl (cI, 96, .inl gg.lt)), (a6, .inl (cI, 16, .inl gg.rw)), (a7, .inl (cI, 7, .inl gg.rf)), (a8, .inl (cI, 3, .inl mm.nb))] := hD
    rw [← ef_4] at hP hD
    refine lv_aload_n hx hb dX4_takes_28 rfl (lv_at hl 0 rfl) ?_
    refine va_get (D := D) (ci := 3) (v := .ref a1) (C := RX4) (T := TX4) (N := 13) hx hb hts hi_X4 hown hK.1 hP 0 rfl rfl 0 (by decide) hk_9 (fun _ h9 => h9) rfl dX4_takes_29 ?_
    refine lv_iload_n hx hb dX4_takes_32 rfl (lv_at hl 1 rfl) ?_
    refine lv_iconst (v := 4) hx hb dX4_takes_33 (by decide) ?_
    refine xc_Si (As := [.int p0, .int 4]) (rest := [.ref a1]) ⟨hx, hb, hml, hown, hts⟩ (kX4_of l D cI p0 4 t_2 4 et_2 (rfl : (4 : Int32) = nI 4)) (va_cwS 2 hts gX4_takes_X4_of rfl rfl rfl hs_X4_of ⟨Nat.le_of_ble_eq_true rfl, Nat.le_of_ble_eq_true rfl⟩) hK hP [] rfl rfl hl.1 rfl (Nat.le_of_ble_eq_true rfl) dX4_takes_34 ⟨Nat.zero_le _, Nat.zero_le _⟩ (fun r_5 hr_5 => ?_)
    refine xa_ld hx hb hK hP 1 rfl (j := (oF t_2 4)) hr_5 (oF_lt (by omega) (by omega)) (by decide) dX4_takes_37 ?_
    exact hret 38 _ (f_4 (oF t_2 4)) ((gg.n, f_4, gg.m, gg.im, gg.hs, gg.lt, gg.L, gg.rw, gg.M, gg.rf), mm) _ _ dX4_takes_38 (by first | (simp [sp_takes, rfz, us, c_2, hb_2, tn_2, hr_3, ef_4, hr_5]; done) | (simp [sp_takes, rfz, us, c_2, hb_2, tn_2, hr_3, ef_4, hr_5, isI]; done) | (simp [sp_takes, rfz, us, c_2, hb_2, tn_2, hr_3, ef_4, hr_5, wrB, lackF]; done)) hP hD hS
  have hb_2 : sayB gg.n p0 = false := bool_f hr_1 c_2
  refine lv_aload_n hx hb dX4_takes_8 rfl (lv_at hl 0 rfl) ?_
  refine lv_iconst (v := (-1)) hx hb dX4_takes_9 (by decide) ?_
  refine xw_Vi (As := [.int (-1)]) (rest := []) (Wn := fun u => [(a0, .inr (3, [.ref a1, .ref a2, .ref a3, .ref a4, .int gg.hs, .ref a5, .ref a6, .ref a7, .int (nI gg.L), .int (nI gg.M), .int mm.pl, .ref a8, .int mm.sd])), (a1, .inl (cI, 49, .inl gg.r)), (a2, .inl (cI, 49, .inl mm.m)), (a3, .inl (cI, 49, .inl gg.im)), (a4, .inl (cI, 49, .inl mm.ws)), (a5, .inl (cI, 96, .inl gg.lt)), (a6, .inl (cI, 16, .inl gg.rw)), (a7, .inl (cI, 7, .inl (upd gg.rf (cN (-1)) (gg.rf (cN (-1)) + 1)))), (a8, .inl (cI, 3, .inl mm.nb))]) (Wr := [(a1, .inl (cI, 49, .inl gg.r)), (a2, .inl (cI, 49, .inl mm.m)), (a3, .inl (cI, 49, .inl gg.im)), (a4, .inl (cI, 49, .inl mm.ws)), (a5, .inl (cI, 96, .inl gg.lt)), (a6, .inl (cI, 16, .inl gg.rw)), (a8, .inl (cI, 3, .inl mm.nb))]) ⟨hx, hb, hml, hown, hts⟩ (kX4_no l D cI H.size a0 a1 a2 a3 a4 a5 a6 a7 a8 gg mm (-1) okc_1) (cwV 1 hts gX4_takes_X4_no rfl rfl rfl hv_X4_no ⟨Nat.le_of_ble_eq_true rfl, Nat.le_of_ble_eq_true rfl⟩) hK hP hD hS hA [0, 7] [1, 2, 3, 4, 5, 6, 8] [7, 0, 1, 2, 3, 4, 5, 8, 6] rfl rfl (by decide) (by decide) (by decide) (by decide) (fun u => rfl) 0 rfl rfl rfl hl.1 rfl (Nat.le_of_ble_eq_true rfl) dX4_takes_10 ⟨Nat.zero_le _, Nat.zero_le _⟩ (fun r_6 u_6 H locs hw_6 hP hD hS => ?_)
  exact hret 13 _ r_6 ((gg.n, gg.r, gg.m, gg.im, gg.hs, gg.lt, gg.L, gg.rw, gg.M, (upd gg.rf (cN (-1)) (gg.rf (cN (-1)) + 1))), mm) _ _ dX4_takes_13 (by first | (simp [sp_takes, rfz, us, c_2, hb_2, hw_6]; done) | (simp [sp_takes, rfz, us, c_2, hb_2, hw_6, isI]; done) | (simp [sp_takes, rfz, us, c_2, hb_2, hw_6, wrB, lackF]; done)) hP hD hS

set_option maxHeartbeats 4000000 in
set_option maxRecDepth 100000 in
theorem kX4_concerns (l : Launch) (D : va_G) (cI : ClassId) (sz : Nat) (a0 a1 a2 a3 a4 a5 a6 a7 a8 : Nat) (gg : GG) (mm : MS) (hG : Good gg) (p0 p1 : Int32) : Met l yX4_concerns wsX4_concerns ({ frames := 2, cells := 0, slots := 0, locals := 43 }) (PRW D cI [.ref a0, .int p0, .int p1] [(a0, .inr (3, [.ref a1, .ref a2, .ref a3, .ref a4, .int gg.hs, .ref a5, .ref a6, .ref a7, .int (nI gg.L), .int (nI gg.M), .int mm.pl, .ref a8, .int mm.sd])), (a1, .inl (cI, 49, .inl gg.r)), (a2, .inl (cI, 49, .inl mm.m)), (a3, .inl (cI, 49, .inl gg.im)), (a4, .inl (cI, 49, .inl mm.ws)), (a5, .inl (cI, 96, .inl gg.lt)), (a6, .inl (cI, 16, .inl gg.rw)), (a7, .inl (cI, 7, .inl gg.rf)), (a8, .inl (cI, 3, .inl mm.nb))] sz) (va_Qi (S := GG × MS) (fun v u => (v, u.1) = sp_concerns gg p0 p1) (BRW D [(a0, .inr (3, [.ref a1, .ref a2, .ref a3, .ref a4, .int gg.hs, .ref a5, .ref a6, .ref a7, .int (nI gg.L), .int (nI gg.M), .int mm.pl, .ref a8, .int mm.sd])), (a1, .inl (cI, 49, .inl gg.r)), (a2, .inl (cI, 49, .inl mm.m)), (a3, .inl (cI, 49, .inl gg.im)), (a4, .inl (cI, 49, .inl mm.ws)), (a5, .inl (cI, 96, .inl gg.lt)), (a6, .inl (cI, 16, .inl gg.rw)), (a7, .inl (cI, 7, .inl gg.rf)), (a8, .inl (cI, 3, .inl mm.nb))] sz (fun u => [(a0, .inr (3, [.ref a1, .ref a2, .ref a3, .ref a4, .int u.1.hs, .ref a5, .ref a6, .ref a7, .int (nI u.1.L), .int (nI u.1.M), .int u.2.pl, .ref a8, .int u.2.sd])), (a1, .inl (cI, 49, .inl u.1.r)), (a2, .inl (cI, 49, .inl u.2.m)), (a3, .inl (cI, 49, .inl u.1.im)), (a4, .inl (cI, 49, .inl u.2.ws)), (a5, .inl (cI, 96, .inl u.1.lt)), (a6, .inl (cI, 16, .inl u.1.rw)), (a7, .inl (cI, 7, .inl u.1.rf)), (a8, .inl (cI, 3, .inl u.2.nb))])) (va_A [(a0, .inr (3, [.ref a1, .ref a2, .ref a3, .ref a4, .int gg.hs, .ref a5, .ref a6, .ref a7, .int (nI gg.L), .int (nI gg.M), .int mm.pl, .ref a8, .int mm.sd])), (a1, .inl (cI, 49, .inl gg.r)), (a2, .inl (cI, 49, .inl mm.m)), (a3, .inl (cI, 49, .inl gg.im)), (a4, .inl (cI, 49, .inl mm.ws)), (a5, .inl (cI, 96, .inl gg.lt)), (a6, .inl (cI, 16, .inl gg.rw)), (a7, .inl (cI, 7, .inl gg.rf)), (a8, .inl (cI, 3, .inl mm.nb))] sz)) 0 0 (va_A [(a0, .inr (3, [.ref a1, .ref a2, .ref a3, .ref a4, .int gg.hs, .ref a5, .ref a6, .ref a7, .int (nI gg.L), .int (nI gg.M), .int mm.pl, .ref a8, .int mm.sd])), (a1, .inl (cI, 49, .inl gg.r)), (a2, .inl (cI, 49, .inl mm.m)), (a3, .inl (cI, 49, .inl gg.im)), (a4, .inl (cI, 49, .inl mm.ws)), (a5, .inl (cI, 96, .inl gg.lt)), (a6, .inl (cI, 16, .inl gg.rw)), (a7, .inl (cI, 7, .inl gg.rf)), (a8, .inl (cI, 3, .inl mm.nb))] sz) := by
  refine st_rwi (cc := cX4_concerns) (maxL := 4) (rt := .int) (by decide) rfl (Nat.le_of_ble_eq_true rfl) (fun _ _ _ => rfl) ?_
  intro p e s m below meth c Q ls A hx hb hml hts hown hP hK hD hA hS hl hret
  replace hown : s.vm.findClass RX4 = some m.cls := hown
  replace hl : lv_has ls 4 [(0, .ref a0), (1, .int p0), (2, .int p1)] := hl
  obtain ⟨H, hH⟩ : ∃ z, z = s.heap := ⟨_, rfl⟩
  obtain ⟨locs, hlo⟩ : ∃ z : List Loc, z = [] := ⟨_, rfl⟩
  replace hP : va_P D vwCl [(a0, .inr (3, [.ref a1, .ref a2, .ref a3, .ref a4, .int gg.hs, .ref a5, .ref a6, .ref a7, .int (nI gg.L), .int (nI gg.M), .int mm.pl, .ref a8, .int mm.sd])), (a1, .inl (cI, 49, .inl gg.r)), (a2, .inl (cI, 49, .inl mm.m)), (a3, .inl (cI, 49, .inl gg.im)), (a4, .inl (cI, 49, .inl mm.ws)), (a5, .inl (cI, 96, .inl gg.lt)), (a6, .inl (cI, 16, .inl gg.rw)), (a7, .inl (cI, 7, .inl gg.rf)), (a8, .inl (cI, 3, .inl mm.nb))] H := by rw [hH]; exact hP
  replace hS : va_S A s.heap H locs := by rw [hH, hlo]; exact hS
  show W p l e ({ frames := 2, cells := 0, slots := 0, locals := 43 }) s m [.ref a0, .int p0, .int p1].toArray below meth c s.heap [] 0 0 Q (F0 m 0 ls [])
  rw [← hlo]
  suffices hgo : W p l e ({ frames := 2, cells := 0, slots := 0, locals := 43 }) s m [.ref a0, .int p0, .int p1].toArray below meth c H locs 0 0 Q (F0 m 0 ls []) by rw [hH] at hgo; exact hgo
  clear hH hlo
  have hi_X4 : ∀ w ∈ wsX40, w ∈ wsX4_concerns := fun w h => List.mem_cons_of_mem _ (List.mem_append_right _ (h))
  have hk_9 := hts (.fieldLink RX4 9 "NestsOfTalkModel" "s" "[I") (List.mem_of_getElem? (i := 1) rfl)
  have hI := hG.inv
  have hn9 := hI.le
  have hL96 := hG.L96
  have hM16 := hG.M16
  refine lv_aload_n hx hb dX4_concerns_0 rfl (lv_at hl 0 rfl) ?_
  refine lv_iload_n hx hb dX4_concerns_1 rfl (lv_at hl 1 rfl) ?_
  refine xc_Vi (As := [.int p0]) (rest := []) ⟨hx, hb, hml, hown, hts⟩ (kX4_isSaying l D cI a0 a1 a2 a3 a4 a5 a6 a7 a8 gg mm gg.n hI p0) (cwV 1 hts gX4_concerns_X4_isSaying rfl rfl rfl hv_X4_isSaying ⟨Nat.le_of_ble_eq_true rfl, Nat.le_of_ble_eq_true rfl⟩) hK hP [0, 1] rfl 0 rfl rfl rfl hl.1 rfl (Nat.le_of_ble_eq_true rfl) dX4_concerns_2 ⟨Nat.zero_le _, Nat.zero_le _⟩ (fun r_1 hr_1 => ?_)
  refine lv_if_eq (tgt := 15) hx hb dX4_concerns_5 (by decide) (fun c_2 => ?_) (fun c_2 => ?_)
  · skip
    have hb_2 : sayB gg.n p0 = false := bool_f hr_1 c_2
    refine lv_aload_n hx hb dX4_concerns_15 rfl (lv_at hl 0 rfl) ?_
    refine lv_iconst (v := (-1)) hx hb dX4_concerns_16 (by decide) ?_
    refine xw_Vi (As := [.int (-1)]) (rest := []) (Wn := fun u => [(a0, .inr (3, [.ref a1, .ref a2, .ref a3, .ref a4, .int gg.hs, .ref a5, .ref a6, .ref a7, .int (nI gg.L), .int (nI gg.M), .int mm.pl, .ref a8, .int mm.sd])), (a1, .inl (cI, 49, .inl gg.r)), (a2, .inl (cI, 49, .inl mm.m)), (a3, .inl (cI, 49, .inl gg.im)), (a4, .inl (cI, 49, .inl mm.ws)), (a5, .inl (cI, 96, .inl gg.lt)), (a6, .inl (cI, 16, .inl gg.rw)), (a7, .inl (cI, 7, .inl (upd gg.rf (cN (-1)) (gg.rf (cN (-1)) + 1)))), (a8, .inl (cI, 3, .inl mm.nb))]) (Wr := [(a1, .inl (cI, 49, .inl gg.r)), (a2, .inl (cI, 49, .inl mm.m)), (a3, .inl (cI, 49, .inl gg.im)), (a4, .inl (cI, 49, .inl mm.ws)), (a5, .inl (cI, 96, .inl gg.lt)), (a6, .inl (cI, 16, .inl gg.rw)), (a8, .inl (cI, 3, .inl mm.nb))]) ⟨hx, hb, hml, hown, hts⟩ (kX4_no l D cI H.size a0 a1 a2 a3 a4 a5 a6 a7 a8 gg mm (-1) okc_1) (cwV 1 hts gX4_concerns_X4_no rfl rfl rfl hv_X4_no ⟨Nat.le_of_ble_eq_true rfl, Nat.le_of_ble_eq_true rfl⟩) hK hP hD hS hA [0, 7] [1, 2, 3, 4, 5, 6, 8] [7, 0, 1, 2, 3, 4, 5, 8, 6] rfl rfl (by decide) (by decide) (by decide) (by decide) (fun u => rfl) 0 rfl rfl rfl hl.1 rfl (Nat.le_of_ble_eq_true rfl) dX4_concerns_17 ⟨Nat.zero_le _, Nat.zero_le _⟩ (fun r_3 u_3 H locs hw_3 hP hD hS => ?_)
    exact hret 20 _ r_3 ((gg.n, gg.r, gg.m, gg.im, gg.hs, gg.lt, gg.L, gg.rw, gg.M, (upd gg.rf (cN (-1)) (gg.rf (cN (-1)) + 1))), mm) _ _ dX4_concerns_20 (by first | (simp [sp_concerns, setAb, rfz, us, c_2, hb_2, hw_3]; done) | (simp [sp_concerns, setAb, rfz, us, c_2, hb_2, hw_3, isI]; done) | (simp [sp_concerns, setAb, rfz, us, c_2, hb_2, hw_3, wrB, lackF]; done)) hP hD hS
  have hb_2 : sayB gg.n p0 = true := bool_t hr_1 c_2
  obtain ⟨t_2, ht_2, et_2⟩ := (sayB_iff (hI).le).1 hb_2
  have tn_2 : tN p0 = t_2 := by rw [et_2]; exact tN_nI (by omega)
  refine lv_iload_n hx hb dX4_concerns_8 rfl (lv_at hl 2 rfl) ?_
  refine xc_Si (As := [.int p1]) (rest := []) ⟨hx, hb, hml, hown, hts⟩ (kX4_isWoman l D cI p1) (va_cwS 1 hts gX4_concerns_X4_isWoman rfl rfl rfl hs_X4_isWoman ⟨Nat.le_of_ble_eq_true rfl, Nat.le_of_ble_eq_true rfl⟩) hK hP [] rfl rfl hl.1 rfl (Nat.le_of_ble_eq_true rfl) dX4_concerns_9 ⟨Nat.zero_le _, Nat.zero_le _⟩ (fun r_4 hr_4 => ?_)
  refine lv_if_ne (tgt := 21) hx hb dX4_concerns_12 (by decide) (fun c_5 => ?_) (fun c_5 => ?_)
  · skip
    have hb_5 : womB p1 = true := bool_t hr_4 c_5
    obtain ⟨w_5, hw_5, ew_5⟩ := womB_iff.1 hb_5
    refine lv_aload_n hx hb dX4_concerns_21 rfl (lv_at hl 0 rfl) ?_
    refine va_get (D := D) (ci := 3) (v := .ref a1) (C := RX4) (T := TX4) (N := 13) hx hb hts hi_X4 hown hK.1 hP 0 rfl rfl 0 (by decide) hk_9 (fun _ h9 => h9) rfl dX4_concerns_22 ?_
    refine lv_iload_n hx hb dX4_concerns_25 rfl (lv_at hl 1 rfl) ?_
    refine lv_iconst (v := 2) hx hb dX4_concerns_26 (by decide) ?_
    refine xc_Si (As := [.int p0, .int 2]) (rest := [.ref a1]) ⟨hx, hb, hml, hown, hts⟩ (kX4_of l D cI p0 2 t_2 2 et_2 (rfl : (2 : Int32) = nI 2)) (va_cwS 2 hts gX4_concerns_X4_of rfl rfl rfl hs_X4_of ⟨Nat.le_of_ble_eq_true rfl, Nat.le_of_ble_eq_true rfl⟩) hK hP [] rfl rfl hl.1 rfl (Nat.le_of_ble_eq_true rfl) dX4_concerns_27 ⟨Nat.zero_le _, Nat.zero_le _⟩ (fun r_6 hr_6 => ?_)
    refine xa_ld hx hb hK hP 1 rfl (j := (oF t_2 2)) hr_6 (oF_lt (by omega) (by omega)) (by decide) dX4_concerns_30 ?_
    refine lv_topi (fun x_7 ex_7 => ?_)
    refine lv_istore_n (lv' := [(3, .int x_7), (0, .ref a0), (1, .int p0), (2, .int p1)]) hx hb dX4_concerns_31 rfl hl (by decide) rfl (fun ls hl => ?_)
    refine lv_aload_n hx hb dX4_concerns_32 rfl (lv_at hl 1 rfl) ?_
    refine va_get (D := D) (ci := 3) (v := .ref a1) (C := RX4) (T := TX4) (N := 13) hx hb hts hi_X4 hown hK.1 hP 0 rfl rfl 0 (by decide) hk_9 (fun _ h9 => h9) rfl dX4_concerns_33 ?_
    refine lv_iload_n hx hb dX4_concerns_36 rfl (lv_at hl 2 rfl) ?_
    refine lv_iconst (v := 2) hx hb dX4_concerns_37 (by decide) ?_
    refine xc_Si (As := [.int p0, .int 2]) (rest := [.ref a1]) ⟨hx, hb, hml, hown, hts⟩ (kX4_of l D cI p0 2 t_2 2 et_2 (rfl : (2 : Int32) = nI 2)) (va_cwS 2 hts gX4_concerns_X4_of rfl rfl rfl hs_X4_of ⟨Nat.le_of_ble_eq_true rfl, Nat.le_of_ble_eq_true rfl⟩) hK hP [] rfl rfl hl.1 rfl (Nat.le_of_ble_eq_true rfl) dX4_concerns_38 ⟨Nat.zero_le _, Nat.zero_le _⟩ (fun r_8 hr_8 => ?_)
    refine lv_iload_n hx hb dX4_concerns_41 rfl (lv_at hl 3 rfl) ?_
    refine xa_st hx hb hK hP hD hS 1 rfl (j := (oF t_2 2)) hr_8 (oF_lt (by omega) (by omega)) (by decide) dX4_concerns_42 (fun H locs hP hD hS => ?_)
    obtain ⟨f_9, ef_9⟩ : ∃ z : Nat → Int32, z = upd gg.r (oF t_2 2) p1 := ⟨_, rfl⟩
    replace hP : va_P D vwCl [(a0, .inr (3, [.ref a1, .ref a2, .ref a3, .ref a4, .int gg.hs, .ref a5, .ref a6, .ref a7, .int (nI gg.L), .int (nI gg.M), .int mm.pl, .ref a8, .int mm.sd])), (a1, .inl (cI, 49, .inl (upd gg.r (oF t_2 2) p1))), (a2, .inl (cI, 49, .inl mm.m)), (a3, .inl (cI, 49, .inl gg.im)), (a4, .inl (cI, 49, .inl mm.ws)), (a5, .inl (cI, 96, .inl gg.lt)), (a6, .inl (cI, 16, .inl gg.rw)), (a7, .inl (cI, 7, .inl gg.rf)), (a8, .inl (cI, 3, .inl mm.nb))] H := hP
    replace hD : va_D A [(a0, .inr (3, [.ref a1, .ref a2, .ref a3, .ref a4, .int gg.hs, .ref a5, .ref a6, .ref a7, .int (nI gg.L), .int (nI gg.M), .int mm.pl, .ref a8, .int mm.sd])), (a1, .inl (cI, 49, .inl (upd gg.r (oF t_2 2) p1))), (a2, .inl (cI, 49, .inl mm.m)), (a3, .inl (cI, 49, .inl gg.im)), (a4, .inl (cI, 49, .inl mm.ws)), (a5, .inl (cI, 96, .inl gg.lt)), (a6, .inl (cI, 16, .inl gg.rw)), (a7, .inl (cI, 7, .inl gg.rf)), (a8, .inl (cI, 3, .inl mm.nb))] := hD
    rw [← ef_9] at hP hD
    refine lv_aload_n hx hb dX4_concerns_43 rfl (lv_at hl 1 rfl) ?_
    refine va_get (D := D) (ci := 3) (v := .ref a1) (C := RX4) (T := TX4) (N := 13) hx hb hts hi_X4 hown hK.1 hP 0 rfl rfl 0 (by decide) hk_9 (fun _ h9 => h9) rfl dX4_concerns_44 ?_
    refine lv_iload_n hx hb dX4_concerns_47 rfl (lv_at hl 2 rfl) ?_
    refine lv_iconst (v := 4) hx hb dX4_concerns_48 (by decide) ?_
    refine xc_Si (As := [.int p0, .int 4]) (rest := [.ref a1]) ⟨hx, hb, hml, hown, hts⟩ (kX4_of l D cI p0 4 t_2 4 et_2 (rfl : (4 : Int32) = nI 4)) (va_cwS 2 hts gX4_concerns_X4_of rfl rfl rfl hs_X4_of ⟨Nat.le_of_ble_eq_true rfl, Nat.le_of_ble_eq_true rfl⟩) hK hP [] rfl rfl hl.1 rfl (Nat.le_of_ble_eq_true rfl) dX4_concerns_49 ⟨Nat.zero_le _, Nat.zero_le _⟩ (fun r_10 hr_10 => ?_)
    refine lv_iconst (v := 0) hx hb dX4_concerns_52 (by decide) ?_
    refine xa_st hx hb hK hP hD hS 1 rfl (j := (oF t_2 4)) hr_10 (oF_lt (by omega) (by omega)) (by decide) dX4_concerns_53 (fun H locs hP hD hS => ?_)
    obtain ⟨f_11, ef_11⟩ : ∃ z : Nat → Int32, z = upd f_9 (oF t_2 4) 0 := ⟨_, rfl⟩
    replace hP : va_P D vwCl [(a0, .inr (3, [.ref a1, .ref a2, .ref a3, .ref a4, .int gg.hs, .ref a5, .ref a6, .ref a7, .int (nI gg.L), .int (nI gg.M), .int mm.pl, .ref a8, .int mm.sd])), (a1, .inl (cI, 49, .inl (upd f_9 (oF t_2 4) 0))), (a2, .inl (cI, 49, .inl mm.m)), (a3, .inl (cI, 49, .inl gg.im)), (a4, .inl (cI, 49, .inl mm.ws)), (a5, .inl (cI, 96, .inl gg.lt)), (a6, .inl (cI, 16, .inl gg.rw)), (a7, .inl (cI, 7, .inl gg.rf)), (a8, .inl (cI, 3, .inl mm.nb))] H := hP
    replace hD : va_D A [(a0, .inr (3, [.ref a1, .ref a2, .ref a3, .ref a4, .int gg.hs, .ref a5, .ref a6, .ref a7, .int (nI gg.L), .int (nI gg.M), .int mm.pl, .ref a8, .int mm.sd])), (a1, .inl (cI, 49, .inl (upd f_9 (oF t_2 4) 0))), (a2, .inl (cI, 49, .inl mm.m)), (a3, .inl (cI, 49, .inl gg.im)), (a4, .inl (cI, 49, .inl mm.ws)), (a5, .inl (cI, 96, .inl gg.lt)), (a6, .inl (cI, 16, .inl gg.rw)), (a7, .inl (cI, 7, .inl gg.rf)), (a8, .inl (cI, 3, .inl mm.nb))] := hD
    rw [← ef_11] at hP hD
    refine lv_iload_n hx hb dX4_concerns_54 rfl (lv_at hl 0 rfl) ?_
    exact hret 55 _ x_7 ((gg.n, f_11, gg.m, gg.im, gg.hs, gg.lt, gg.L, gg.rw, gg.M, gg.rf), mm) _ _ dX4_concerns_55 (by first | (simp [sp_concerns, setAb, rfz, us, c_2, c_5, hb_2, tn_2, hb_5, hr_6, ex_7, hr_8, ef_9, hr_10, ef_11]; done) | (simp [sp_concerns, setAb, rfz, us, c_2, c_5, hb_2, tn_2, hb_5, hr_6, ex_7, hr_8, ef_9, hr_10, ef_11, isI]; done) | (simp [sp_concerns, setAb, rfz, us, c_2, c_5, hb_2, tn_2, hb_5, hr_6, ex_7, hr_8, ef_9, hr_10, ef_11, wrB, lackF]; done)) hP hD hS
  have hb_5 : womB p1 = false := bool_f hr_4 c_5
  refine lv_aload_n hx hb dX4_concerns_15 rfl (lv_at hl 0 rfl) ?_
  refine lv_iconst (v := (-1)) hx hb dX4_concerns_16 (by decide) ?_
  refine xw_Vi (As := [.int (-1)]) (rest := []) (Wn := fun u => [(a0, .inr (3, [.ref a1, .ref a2, .ref a3, .ref a4, .int gg.hs, .ref a5, .ref a6, .ref a7, .int (nI gg.L), .int (nI gg.M), .int mm.pl, .ref a8, .int mm.sd])), (a1, .inl (cI, 49, .inl gg.r)), (a2, .inl (cI, 49, .inl mm.m)), (a3, .inl (cI, 49, .inl gg.im)), (a4, .inl (cI, 49, .inl mm.ws)), (a5, .inl (cI, 96, .inl gg.lt)), (a6, .inl (cI, 16, .inl gg.rw)), (a7, .inl (cI, 7, .inl (upd gg.rf (cN (-1)) (gg.rf (cN (-1)) + 1)))), (a8, .inl (cI, 3, .inl mm.nb))]) (Wr := [(a1, .inl (cI, 49, .inl gg.r)), (a2, .inl (cI, 49, .inl mm.m)), (a3, .inl (cI, 49, .inl gg.im)), (a4, .inl (cI, 49, .inl mm.ws)), (a5, .inl (cI, 96, .inl gg.lt)), (a6, .inl (cI, 16, .inl gg.rw)), (a8, .inl (cI, 3, .inl mm.nb))]) ⟨hx, hb, hml, hown, hts⟩ (kX4_no l D cI H.size a0 a1 a2 a3 a4 a5 a6 a7 a8 gg mm (-1) okc_1) (cwV 1 hts gX4_concerns_X4_no rfl rfl rfl hv_X4_no ⟨Nat.le_of_ble_eq_true rfl, Nat.le_of_ble_eq_true rfl⟩) hK hP hD hS hA [0, 7] [1, 2, 3, 4, 5, 6, 8] [7, 0, 1, 2, 3, 4, 5, 8, 6] rfl rfl (by decide) (by decide) (by decide) (by decide) (fun u => rfl) 0 rfl rfl rfl hl.1 rfl (Nat.le_of_ble_eq_true rfl) dX4_concerns_17 ⟨Nat.zero_le _, Nat.zero_le _⟩ (fun r_12 u_12 H locs hw_12 hP hD hS => ?_)
  exact hret 20 _ r_12 ((gg.n, gg.r, gg.m, gg.im, gg.hs, gg.lt, gg.L, gg.rw, gg.M, (upd gg.rf (cN (-1)) (gg.rf (cN (-1)) + 1))), mm) _ _ dX4_concerns_20 (by first | (simp [sp_concerns, setAb, rfz, us, c_2, c_5, hb_2, tn_2, hb_5, hw_12]; done) | (simp [sp_concerns, setAb, rfz, us, c_2, c_5, hb_2, tn_2, hb_5, hw_12, isI]; done) | (simp [sp_concerns, setAb, rfz, us, c_2, c_5, hb_2, tn_2, hb_5, hw_12, wrB, lackF]; done)) hP hD hS

set_option maxHeartbeats 4000000 in
set_option maxRecDepth 100000 in
theorem kX4_nest (l : Launch) (D : va_G) (cI : ClassId) (sz : Nat) (a0 a1 a2 a3 a4 a5 a6 a7 a8 : Nat) (gg : GG) (mm : MS) (hG : Good gg) (p0 p1 : Int32) : Met l yX4_nest wsX4_nest ({ frames := 5, cells := 0, slots := 0, locals := 111 }) (PRW D cI [.ref a0, .int p0, .int p1] [(a0, .inr (3, [.ref a1, .ref a2, .ref a3, .ref a4, .int gg.hs, .ref a5, .ref a6, .ref a7, .int (nI gg.L), .int (nI gg.M), .int mm.pl, .ref a8, .int mm.sd])), (a1, .inl (cI, 49, .inl gg.r)), (a2, .inl (cI, 49, .inl mm.m)), (a3, .inl (cI, 49, .inl gg.im)), (a4, .inl (cI, 49, .inl mm.ws)), (a5, .inl (cI, 96, .inl gg.lt)), (a6, .inl (cI, 16, .inl gg.rw)), (a7, .inl (cI, 7, .inl gg.rf)), (a8, .inl (cI, 3, .inl mm.nb))] sz) (va_Qi (S := GG × MS) (fun v u => (v, u.1) = sp_nest gg p0 p1) (BRW D [(a0, .inr (3, [.ref a1, .ref a2, .ref a3, .ref a4, .int gg.hs, .ref a5, .ref a6, .ref a7, .int (nI gg.L), .int (nI gg.M), .int mm.pl, .ref a8, .int mm.sd])), (a1, .inl (cI, 49, .inl gg.r)), (a2, .inl (cI, 49, .inl mm.m)), (a3, .inl (cI, 49, .inl gg.im)), (a4, .inl (cI, 49, .inl mm.ws)), (a5, .inl (cI, 96, .inl gg.lt)), (a6, .inl (cI, 16, .inl gg.rw)), (a7, .inl (cI, 7, .inl gg.rf)), (a8, .inl (cI, 3, .inl mm.nb))] sz (fun u => [(a0, .inr (3, [.ref a1, .ref a2, .ref a3, .ref a4, .int u.1.hs, .ref a5, .ref a6, .ref a7, .int (nI u.1.L), .int (nI u.1.M), .int u.2.pl, .ref a8, .int u.2.sd])), (a1, .inl (cI, 49, .inl u.1.r)), (a2, .inl (cI, 49, .inl u.2.m)), (a3, .inl (cI, 49, .inl u.1.im)), (a4, .inl (cI, 49, .inl u.2.ws)), (a5, .inl (cI, 96, .inl u.1.lt)), (a6, .inl (cI, 16, .inl u.1.rw)), (a7, .inl (cI, 7, .inl u.1.rf)), (a8, .inl (cI, 3, .inl u.2.nb))])) (va_A [(a0, .inr (3, [.ref a1, .ref a2, .ref a3, .ref a4, .int gg.hs, .ref a5, .ref a6, .ref a7, .int (nI gg.L), .int (nI gg.M), .int mm.pl, .ref a8, .int mm.sd])), (a1, .inl (cI, 49, .inl gg.r)), (a2, .inl (cI, 49, .inl mm.m)), (a3, .inl (cI, 49, .inl gg.im)), (a4, .inl (cI, 49, .inl mm.ws)), (a5, .inl (cI, 96, .inl gg.lt)), (a6, .inl (cI, 16, .inl gg.rw)), (a7, .inl (cI, 7, .inl gg.rf)), (a8, .inl (cI, 3, .inl mm.nb))] sz)) 0 0 (va_A [(a0, .inr (3, [.ref a1, .ref a2, .ref a3, .ref a4, .int gg.hs, .ref a5, .ref a6, .ref a7, .int (nI gg.L), .int (nI gg.M), .int mm.pl, .ref a8, .int mm.sd])), (a1, .inl (cI, 49, .inl gg.r)), (a2, .inl (cI, 49, .inl mm.m)), (a3, .inl (cI, 49, .inl gg.im)), (a4, .inl (cI, 49, .inl mm.ws)), (a5, .inl (cI, 96, .inl gg.lt)), (a6, .inl (cI, 16, .inl gg.rw)), (a7, .inl (cI, 7, .inl gg.rf)), (a8, .inl (cI, 3, .inl mm.nb))] sz) := by
  refine st_rwi (cc := cX4_nest) (maxL := 4) (rt := .int) (by decide) rfl (Nat.le_of_ble_eq_true rfl) (fun _ _ _ => rfl) ?_
  intro p e s m below meth c Q ls A hx hb hml hts hown hP hK hD hA hS hl hret
  replace hown : s.vm.findClass RX4 = some m.cls := hown
  replace hl : lv_has ls 4 [(0, .ref a0), (1, .int p0), (2, .int p1)] := hl
  obtain ⟨H, hH⟩ : ∃ z, z = s.heap := ⟨_, rfl⟩
  obtain ⟨locs, hlo⟩ : ∃ z : List Loc, z = [] := ⟨_, rfl⟩
  replace hP : va_P D vwCl [(a0, .inr (3, [.ref a1, .ref a2, .ref a3, .ref a4, .int gg.hs, .ref a5, .ref a6, .ref a7, .int (nI gg.L), .int (nI gg.M), .int mm.pl, .ref a8, .int mm.sd])), (a1, .inl (cI, 49, .inl gg.r)), (a2, .inl (cI, 49, .inl mm.m)), (a3, .inl (cI, 49, .inl gg.im)), (a4, .inl (cI, 49, .inl mm.ws)), (a5, .inl (cI, 96, .inl gg.lt)), (a6, .inl (cI, 16, .inl gg.rw)), (a7, .inl (cI, 7, .inl gg.rf)), (a8, .inl (cI, 3, .inl mm.nb))] H := by rw [hH]; exact hP
  replace hS : va_S A s.heap H locs := by rw [hH, hlo]; exact hS
  show W p l e ({ frames := 5, cells := 0, slots := 0, locals := 111 }) s m [.ref a0, .int p0, .int p1].toArray below meth c s.heap [] 0 0 Q (F0 m 0 ls [])
  rw [← hlo]
  suffices hgo : W p l e ({ frames := 5, cells := 0, slots := 0, locals := 111 }) s m [.ref a0, .int p0, .int p1].toArray below meth c H locs 0 0 Q (F0 m 0 ls []) by rw [hH] at hgo; exact hgo
  clear hH hlo
  have hi_X4 : ∀ w ∈ wsX40, w ∈ wsX4_nest := fun w h => List.mem_cons_of_mem _ (List.mem_append_right _ (h))
  have hk_9 := hts (.fieldLink RX4 9 "NestsOfTalkModel" "s" "[I") (List.mem_of_getElem? (i := 1) rfl)
  have hI := hG.inv
  have hn9 := hI.le
  have hL96 := hG.L96
  have hM16 := hG.M16
  refine lv_iload_n hx hb dX4_nest_0 rfl (lv_at hl 1 rfl) ?_
  refine xc_Si (As := [.int p0]) (rest := []) ⟨hx, hb, hml, hown, hts⟩ (kX4_isWoman l D cI p0) (va_cwS 1 hts gX4_nest_X4_isWoman rfl rfl rfl hs_X4_isWoman ⟨Nat.le_of_ble_eq_true rfl, Nat.le_of_ble_eq_true rfl⟩) hK hP [] rfl rfl hl.1 rfl (Nat.le_of_ble_eq_true rfl) dX4_nest_1 ⟨Nat.zero_le _, Nat.zero_le _⟩ (fun r_1 hr_1 => ?_)
  refine lv_if_ne (tgt := 13) hx hb dX4_nest_4 (by decide) (fun c_2 => ?_) (fun c_2 => ?_)
  · skip
    have hb_2 : womB p0 = true := bool_t hr_1 c_2
    obtain ⟨w_2, hw_2, ew_2⟩ := womB_iff.1 hb_2
    refine lv_aload_n hx hb dX4_nest_13 rfl (lv_at hl 0 rfl) ?_
    refine va_get (D := D) (ci := 3) (v := .ref a1) (C := RX4) (T := TX4) (N := 13) hx hb hts hi_X4 hown hK.1 hP 0 rfl rfl 0 (by decide) hk_9 (fun _ h9 => h9) rfl dX4_nest_14 ?_
    refine lv_iload_n hx hb dX4_nest_17 rfl (lv_at hl 1 rfl) ?_
    refine xc_Si (As := [.ref a1, .int p0]) (rest := []) ⟨hx, hb, hml, hown, hts⟩ (kX4_nestIn l D cI a1 gg.r gg.n hI p0) (va_cwS 2 hts gX4_nest_X4_nestIn rfl rfl rfl hs_X4_nestIn ⟨Nat.le_of_ble_eq_true rfl, Nat.le_of_ble_eq_true rfl⟩) hK hP [1] rfl rfl hl.1 rfl (Nat.le_of_ble_eq_true rfl) dX4_nest_18 ⟨Nat.zero_le _, Nat.zero_le _⟩ (fun r_3 hr_3 => ?_)
    refine lv_istore_n (lv' := [(3, .int r_3), (0, .ref a0), (1, .int p0), (2, .int p1)]) hx hb dX4_nest_21 rfl hl (by decide) rfl (fun ls hl => ?_)
    refine lv_iload_n hx hb dX4_nest_22 rfl (lv_at hl 3 rfl) ?_
    by_cases c_4 : p1 = 0
    · refine xs_tin (k := 0) (off := 37) (tgt := 60) hx hb dX4_nest_23 c_4 (by decide) (by decide) (by decide) (by decide) (by decide) ?_
      refine lv_iload_n hx hb dX4_nest_60 rfl (lv_at hl 0 rfl) ?_
      exact hret 61 _ r_3 (gg, mm) _ _ dX4_nest_61 (by first | (simp [sp_nest, lackF, rfz, us, c_2, c_4, hb_2, hr_3]; done) | (simp [sp_nest, lackF, rfz, us, c_2, c_4, hb_2, hr_3, isI]; done) | (simp [sp_nest, lackF, rfz, us, c_2, c_4, hb_2, hr_3, wrB, lackF]; done)) hP hD hS
    by_cases c_5 : p1 = 1
    · refine xs_tin (k := 1) (off := 39) (tgt := 62) hx hb dX4_nest_23 c_5 (by decide) (by decide) (by decide) (by decide) (by decide) ?_
      refine lv_aload_n hx hb dX4_nest_62 rfl (lv_at hl 1 rfl) ?_
      refine va_get (D := D) (ci := 3) (v := .ref a1) (C := RX4) (T := TX4) (N := 13) hx hb hts hi_X4 hown hK.1 hP 0 rfl rfl 0 (by decide) hk_9 (fun _ h9 => h9) rfl dX4_nest_63 ?_
      refine lv_iload_n hx hb dX4_nest_66 rfl (lv_at hl 0 rfl) ?_
      refine lv_iload_n hx hb dX4_nest_67 rfl (lv_at hl 3 rfl) ?_
      refine xc_Si (As := [.ref a1, .int r_3, .int p1]) (rest := []) ⟨hx, hb, hml, hown, hts⟩ (kX4_sumOf l D cI a1 gg.r gg.n hI r_3 p1) (va_cwS 3 hts gX4_nest_X4_sumOf rfl rfl rfl hs_X4_sumOf ⟨Nat.le_of_ble_eq_true rfl, Nat.le_of_ble_eq_true rfl⟩) hK hP [1] rfl rfl hl.1 rfl (Nat.le_of_ble_eq_true rfl) dX4_nest_68 ⟨Nat.zero_le _, Nat.zero_le _⟩ (fun r_6 hr_6 => ?_)
      exact hret 71 _ r_6 (gg, mm) _ _ dX4_nest_71 (by first | (simp [sp_nest, lackF, rfz, us, c_2, c_4, c_5, hb_2, hr_3, hr_6]; done) | (simp [sp_nest, lackF, rfz, us, c_2, c_4, c_5, hb_2, hr_3, hr_6, isI]; done) | (simp [sp_nest, lackF, rfz, us, c_2, c_4, c_5, hb_2, hr_3, hr_6, wrB, lackF]; done)) hP hD hS
    by_cases c_7 : p1 = 2
    · refine xs_tin (k := 2) (off := 39) (tgt := 62) hx hb dX4_nest_23 c_7 (by decide) (by decide) (by decide) (by decide) (by decide) ?_
      refine lv_aload_n hx hb dX4_nest_62 rfl (lv_at hl 1 rfl) ?_
      refine va_get (D := D) (ci := 3) (v := .ref a1) (C := RX4) (T := TX4) (N := 13) hx hb hts hi_X4 hown hK.1 hP 0 rfl rfl 0 (by decide) hk_9 (fun _ h9 => h9) rfl dX4_nest_63 ?_
      refine lv_iload_n hx hb dX4_nest_66 rfl (lv_at hl 0 rfl) ?_
      refine lv_iload_n hx hb dX4_nest_67 rfl (lv_at hl 3 rfl) ?_
      refine xc_Si (As := [.ref a1, .int r_3, .int p1]) (rest := []) ⟨hx, hb, hml, hown, hts⟩ (kX4_sumOf l D cI a1 gg.r gg.n hI r_3 p1) (va_cwS 3 hts gX4_nest_X4_sumOf rfl rfl rfl hs_X4_sumOf ⟨Nat.le_of_ble_eq_true rfl, Nat.le_of_ble_eq_true rfl⟩) hK hP [1] rfl rfl hl.1 rfl (Nat.le_of_ble_eq_true rfl) dX4_nest_68 ⟨Nat.zero_le _, Nat.zero_le _⟩ (fun r_8 hr_8 => ?_)
      exact hret 71 _ r_8 (gg, mm) _ _ dX4_nest_71 (by first | (simp [sp_nest, lackF, rfz, us, c_2, c_4, c_5, c_7, hb_2, hr_3, hr_8]; done) | (simp [sp_nest, lackF, rfz, us, c_2, c_4, c_5, c_7, hb_2, hr_3, hr_8, isI]; done) | (simp [sp_nest, lackF, rfz, us, c_2, c_4, c_5, c_7, hb_2, hr_3, hr_8, wrB, lackF]; done)) hP hD hS
    by_cases c_9 : p1 = 3
    · refine xs_tin (k := 3) (off := 39) (tgt := 62) hx hb dX4_nest_23 c_9 (by decide) (by decide) (by decide) (by decide) (by decide) ?_
      refine lv_aload_n hx hb dX4_nest_62 rfl (lv_at hl 1 rfl) ?_
      refine va_get (D := D) (ci := 3) (v := .ref a1) (C := RX4) (T := TX4) (N := 13) hx hb hts hi_X4 hown hK.1 hP 0 rfl rfl 0 (by decide) hk_9 (fun _ h9 => h9) rfl dX4_nest_63 ?_
      refine lv_iload_n hx hb dX4_nest_66 rfl (lv_at hl 0 rfl) ?_
      refine lv_iload_n hx hb dX4_nest_67 rfl (lv_at hl 3 rfl) ?_
      refine xc_Si (As := [.ref a1, .int r_3, .int p1]) (rest := []) ⟨hx, hb, hml, hown, hts⟩ (kX4_sumOf l D cI a1 gg.r gg.n hI r_3 p1) (va_cwS 3 hts gX4_nest_X4_sumOf rfl rfl rfl hs_X4_sumOf ⟨Nat.le_of_ble_eq_true rfl, Nat.le_of_ble_eq_true rfl⟩) hK hP [1] rfl rfl hl.1 rfl (Nat.le_of_ble_eq_true rfl) dX4_nest_68 ⟨Nat.zero_le _, Nat.zero_le _⟩ (fun r_10 hr_10 => ?_)
      exact hret 71 _ r_10 (gg, mm) _ _ dX4_nest_71 (by first | (simp [sp_nest, lackF, rfz, us, c_2, c_4, c_5, c_7, c_9, hb_2, hr_3, hr_10]; done) | (simp [sp_nest, lackF, rfz, us, c_2, c_4, c_5, c_7, c_9, hb_2, hr_3, hr_10, isI]; done) | (simp [sp_nest, lackF, rfz, us, c_2, c_4, c_5, c_7, c_9, hb_2, hr_3, hr_10, wrB, lackF]; done)) hP hD hS
    by_cases c_11 : p1 = 4
    · refine xs_tin (k := 4) (off := 49) (tgt := 72) hx hb dX4_nest_23 c_11 (by decide) (by decide) (by decide) (by decide) (by decide) ?_
      refine lv_aload_n hx hb dX4_nest_72 rfl (lv_at hl 1 rfl) ?_
      refine va_get (D := D) (ci := 3) (v := .ref a1) (C := RX4) (T := TX4) (N := 13) hx hb hts hi_X4 hown hK.1 hP 0 rfl rfl 0 (by decide) hk_9 (fun _ h9 => h9) rfl dX4_nest_73 ?_
      refine lv_iload_n hx hb dX4_nest_76 rfl (lv_at hl 0 rfl) ?_
      refine xc_Si (As := [.ref a1, .int r_3]) (rest := []) ⟨hx, hb, hml, hown, hts⟩ (kX4_holdsSet l D cI a1 gg.r gg.n hI r_3) (va_cwS 2 hts gX4_nest_X4_holdsSet rfl rfl rfl hs_X4_holdsSet ⟨Nat.le_of_ble_eq_true rfl, Nat.le_of_ble_eq_true rfl⟩) hK hP [1] rfl rfl hl.1 rfl (Nat.le_of_ble_eq_true rfl) dX4_nest_77 ⟨Nat.zero_le _, Nat.zero_le _⟩ (fun r_12 hr_12 => ?_)
      refine lv_if_eq (tgt := 87) hx hb dX4_nest_80 (by decide) (fun c_13 => ?_) (fun c_13 => ?_)
      · skip
        have hb_13 : hld gg.r gg.n r_3 = false := bool_f hr_12 c_13
        have hbn_13 := hb_13
        try rw [hr_3] at hb_13
        refine lv_iconst (v := 0) hx hb dX4_nest_87 (by decide) ?_
        exact hret 88 _ 0 (gg, mm) _ _ dX4_nest_88 (by first | (simp [sp_nest, lackF, rfz, us, c_2, c_4, c_5, c_7, c_9, c_11, c_13, hb_2, hb_13, hr_3]; done) | (simp [sp_nest, lackF, rfz, us, c_2, c_4, c_5, c_7, c_9, c_11, c_13, hb_2, hb_13, hr_3, isI]; done) | (simp [sp_nest, lackF, rfz, us, c_2, c_4, c_5, c_7, c_9, c_11, c_13, hb_2, hb_13, hr_3, wrB, lackF]; done)) hP hD hS
      have hb_13 : hld gg.r gg.n r_3 = true := bool_t hr_12 c_13
      have hbn_13 := hb_13
      try rw [hr_3] at hb_13
      refine lv_iconst (v := 1) hx hb dX4_nest_83 (by decide) ?_
      refine lv_goto (tgt := 88) hx hb dX4_nest_84 (by decide) ?_
      exact hret 88 _ 1 (gg, mm) _ _ dX4_nest_88 (by first | (simp [sp_nest, lackF, rfz, us, c_2, c_4, c_5, c_7, c_9, c_11, c_13, hb_2, hb_13, hr_3]; done) | (simp [sp_nest, lackF, rfz, us, c_2, c_4, c_5, c_7, c_9, c_11, c_13, hb_2, hb_13, hr_3, isI]; done) | (simp [sp_nest, lackF, rfz, us, c_2, c_4, c_5, c_7, c_9, c_11, c_13, hb_2, hb_13, hr_3, wrB, lackF]; done)) hP hD hS
    by_cases c_14 : p1 = 5
    · refine xs_tin (k := 5) (off := 66) (tgt := 89) hx hb dX4_nest_23 c_14 (by decide) (by decide) (by decide) (by decide) (by decide) ?_
      refine lv_aload_n hx hb dX4_nest_89 rfl (lv_at hl 1 rfl) ?_
      refine va_get (D := D) (ci := 3) (v := .ref a1) (C := RX4) (T := TX4) (N := 13) hx hb hts hi_X4 hown hK.1 hP 0 rfl rfl 0 (by decide) hk_9 (fun _ h9 => h9) rfl dX4_nest_90 ?_
      refine lv_iload_n hx hb dX4_nest_93 rfl (lv_at hl 0 rfl) ?_
      refine xc_Si (As := [.ref a1, .int r_3]) (rest := []) ⟨hx, hb, hml, hown, hts⟩ (kX4_lacksOf l D cI a1 gg.r gg.n hI r_3) (va_cwS 2 hts gX4_nest_X4_lacksOf rfl rfl rfl hs_X4_lacksOf ⟨Nat.le_of_ble_eq_true rfl, Nat.le_of_ble_eq_true rfl⟩) hK hP [1] rfl rfl hl.1 rfl (Nat.le_of_ble_eq_true rfl) dX4_nest_94 ⟨Nat.zero_le _, Nat.zero_le _⟩ (fun r_15 hr_15 => ?_)
      exact hret 97 _ r_15 (gg, mm) _ _ dX4_nest_97 (by first | (simp [sp_nest, lackF, rfz, us, c_2, c_4, c_5, c_7, c_9, c_11, c_14, hb_2, hr_3, hr_15]; done) | (simp [sp_nest, lackF, rfz, us, c_2, c_4, c_5, c_7, c_9, c_11, c_14, hb_2, hr_3, hr_15, isI]; done) | (simp [sp_nest, lackF, rfz, us, c_2, c_4, c_5, c_7, c_9, c_11, c_14, hb_2, hr_3, hr_15, wrB, lackF]; done)) hP hD hS
    refine xs_tout (tgt := 98) (ks := [0, 1, 2, 3, 4, 5]) hx hb dX4_nest_23 (List.forall_mem_cons.mpr ⟨c_4, List.forall_mem_cons.mpr ⟨c_5, List.forall_mem_cons.mpr ⟨c_7, List.forall_mem_cons.mpr ⟨c_9, List.forall_mem_cons.mpr ⟨c_11, List.forall_mem_cons.mpr ⟨c_14, fun _ h => absurd h List.not_mem_nil⟩⟩⟩⟩⟩⟩) (by decide) (by decide) ?_
    refine lv_aload_n hx hb dX4_nest_98 rfl (lv_at hl 1 rfl) ?_
    refine lv_bipush (v := (-2)) hx hb dX4_nest_99 (by decide) ?_
    refine xw_Vi (As := [.int (-2)]) (rest := []) (Wn := fun u => [(a0, .inr (3, [.ref a1, .ref a2, .ref a3, .ref a4, .int gg.hs, .ref a5, .ref a6, .ref a7, .int (nI gg.L), .int (nI gg.M), .int mm.pl, .ref a8, .int mm.sd])), (a1, .inl (cI, 49, .inl gg.r)), (a2, .inl (cI, 49, .inl mm.m)), (a3, .inl (cI, 49, .inl gg.im)), (a4, .inl (cI, 49, .inl mm.ws)), (a5, .inl (cI, 96, .inl gg.lt)), (a6, .inl (cI, 16, .inl gg.rw)), (a7, .inl (cI, 7, .inl (upd gg.rf (cN (-2)) (gg.rf (cN (-2)) + 1)))), (a8, .inl (cI, 3, .inl mm.nb))]) (Wr := [(a1, .inl (cI, 49, .inl gg.r)), (a2, .inl (cI, 49, .inl mm.m)), (a3, .inl (cI, 49, .inl gg.im)), (a4, .inl (cI, 49, .inl mm.ws)), (a5, .inl (cI, 96, .inl gg.lt)), (a6, .inl (cI, 16, .inl gg.rw)), (a8, .inl (cI, 3, .inl mm.nb))]) ⟨hx, hb, hml, hown, hts⟩ (kX4_no l D cI H.size a0 a1 a2 a3 a4 a5 a6 a7 a8 gg mm (-2) okc_2) (cwV 1 hts gX4_nest_X4_no rfl rfl rfl hv_X4_no ⟨Nat.le_of_ble_eq_true rfl, Nat.le_of_ble_eq_true rfl⟩) hK hP hD hS hA [0, 7] [1, 2, 3, 4, 5, 6, 8] [7, 0, 1, 2, 3, 4, 5, 8, 6] rfl rfl (by decide) (by decide) (by decide) (by decide) (fun u => rfl) 0 rfl rfl rfl hl.1 rfl (Nat.le_of_ble_eq_true rfl) dX4_nest_101 ⟨Nat.zero_le _, Nat.zero_le _⟩ (fun r_16 u_16 H locs hw_16 hP hD hS => ?_)
    exact hret 104 _ r_16 ((gg.n, gg.r, gg.m, gg.im, gg.hs, gg.lt, gg.L, gg.rw, gg.M, (upd gg.rf (cN (-2)) (gg.rf (cN (-2)) + 1))), mm) _ _ dX4_nest_104 (by first | (simp [sp_nest, lackF, rfz, us, c_2, c_4, c_5, c_7, c_9, c_11, c_14, hb_2, hw_16, hr_3]; done) | (simp [sp_nest, lackF, rfz, us, c_2, c_4, c_5, c_7, c_9, c_11, c_14, hb_2, hw_16, hr_3, isI]; done) | (simp [sp_nest, lackF, rfz, us, c_2, c_4, c_5, c_7, c_9, c_11, c_14, hb_2, hw_16, hr_3, wrB, lackF]; done)) hP hD hS
  have hb_2 : womB p0 = false := bool_f hr_1 c_2
  refine lv_aload_n hx hb dX4_nest_7 rfl (lv_at hl 0 rfl) ?_
  refine lv_iconst (v := (-1)) hx hb dX4_nest_8 (by decide) ?_
  refine xw_Vi (As := [.int (-1)]) (rest := []) (Wn := fun u => [(a0, .inr (3, [.ref a1, .ref a2, .ref a3, .ref a4, .int gg.hs, .ref a5, .ref a6, .ref a7, .int (nI gg.L), .int (nI gg.M), .int mm.pl, .ref a8, .int mm.sd])), (a1, .inl (cI, 49, .inl gg.r)), (a2, .inl (cI, 49, .inl mm.m)), (a3, .inl (cI, 49, .inl gg.im)), (a4, .inl (cI, 49, .inl mm.ws)), (a5, .inl (cI, 96, .inl gg.lt)), (a6, .inl (cI, 16, .inl gg.rw)), (a7, .inl (cI, 7, .inl (upd gg.rf (cN (-1)) (gg.rf (cN (-1)) + 1)))), (a8, .inl (cI, 3, .inl mm.nb))]) (Wr := [(a1, .inl (cI, 49, .inl gg.r)), (a2, .inl (cI, 49, .inl mm.m)), (a3, .inl (cI, 49, .inl gg.im)), (a4, .inl (cI, 49, .inl mm.ws)), (a5, .inl (cI, 96, .inl gg.lt)), (a6, .inl (cI, 16, .inl gg.rw)), (a8, .inl (cI, 3, .inl mm.nb))]) ⟨hx, hb, hml, hown, hts⟩ (kX4_no l D cI H.size a0 a1 a2 a3 a4 a5 a6 a7 a8 gg mm (-1) okc_1) (cwV 1 hts gX4_nest_X4_no rfl rfl rfl hv_X4_no ⟨Nat.le_of_ble_eq_true rfl, Nat.le_of_ble_eq_true rfl⟩) hK hP hD hS hA [0, 7] [1, 2, 3, 4, 5, 6, 8] [7, 0, 1, 2, 3, 4, 5, 8, 6] rfl rfl (by decide) (by decide) (by decide) (by decide) (fun u => rfl) 0 rfl rfl rfl hl.1 rfl (Nat.le_of_ble_eq_true rfl) dX4_nest_9 ⟨Nat.zero_le _, Nat.zero_le _⟩ (fun r_17 u_17 H locs hw_17 hP hD hS => ?_)
  exact hret 12 _ r_17 ((gg.n, gg.r, gg.m, gg.im, gg.hs, gg.lt, gg.L, gg.rw, gg.M, (upd gg.rf (cN (-1)) (gg.rf (cN (-1)) + 1))), mm) _ _ dX4_nest_12 (by first | (simp [sp_nest, lackF, rfz, us, c_2, hb_2, hw_17]; done) | (simp [sp_nest, lackF, rfz, us, c_2, hb_2, hw_17, isI]; done) | (simp [sp_nest, lackF, rfz, us, c_2, hb_2, hw_17, wrB, lackF]; done)) hP hD hS

set_option maxHeartbeats 4000000 in
set_option maxRecDepth 100000 in
theorem kX4_wears (l : Launch) (D : va_G) (cI : ClassId) (sz : Nat) (a0 a1 a2 a3 a4 a5 a6 a7 a8 : Nat) (gg : GG) (mm : MS) (hG : Good gg) (p0 p1 : Int32) : Met l yX4_wears wsX4_wears ({ frames := 2, cells := 0, slots := 0, locals := 43 }) (PRW D cI [.ref a0, .int p0, .int p1] [(a0, .inr (3, [.ref a1, .ref a2, .ref a3, .ref a4, .int gg.hs, .ref a5, .ref a6, .ref a7, .int (nI gg.L), .int (nI gg.M), .int mm.pl, .ref a8, .int mm.sd])), (a1, .inl (cI, 49, .inl gg.r)), (a2, .inl (cI, 49, .inl mm.m)), (a3, .inl (cI, 49, .inl gg.im)), (a4, .inl (cI, 49, .inl mm.ws)), (a5, .inl (cI, 96, .inl gg.lt)), (a6, .inl (cI, 16, .inl gg.rw)), (a7, .inl (cI, 7, .inl gg.rf)), (a8, .inl (cI, 3, .inl mm.nb))] sz) (va_Qi (S := GG × MS) (fun v u => (v, u.1) = sp_wears gg p0 p1) (BRW D [(a0, .inr (3, [.ref a1, .ref a2, .ref a3, .ref a4, .int gg.hs, .ref a5, .ref a6, .ref a7, .int (nI gg.L), .int (nI gg.M), .int mm.pl, .ref a8, .int mm.sd])), (a1, .inl (cI, 49, .inl gg.r)), (a2, .inl (cI, 49, .inl mm.m)), (a3, .inl (cI, 49, .inl gg.im)), (a4, .inl (cI, 49, .inl mm.ws)), (a5, .inl (cI, 96, .inl gg.lt)), (a6, .inl (cI, 16, .inl gg.rw)), (a7, .inl (cI, 7, .inl gg.rf)), (a8, .inl (cI, 3, .inl mm.nb))] sz (fun u => [(a0, .inr (3, [.ref a1, .ref a2, .ref a3, .ref a4, .int u.1.hs, .ref a5, .ref a6, .ref a7, .int (nI u.1.L), .int (nI u.1.M), .int u.2.pl, .ref a8, .int u.2.sd])), (a1, .inl (cI, 49, .inl u.1.r)), (a2, .inl (cI, 49, .inl u.2.m)), (a3, .inl (cI, 49, .inl u.1.im)), (a4, .inl (cI, 49, .inl u.2.ws)), (a5, .inl (cI, 96, .inl u.1.lt)), (a6, .inl (cI, 16, .inl u.1.rw)), (a7, .inl (cI, 7, .inl u.1.rf)), (a8, .inl (cI, 3, .inl u.2.nb))])) (va_A [(a0, .inr (3, [.ref a1, .ref a2, .ref a3, .ref a4, .int gg.hs, .ref a5, .ref a6, .ref a7, .int (nI gg.L), .int (nI gg.M), .int mm.pl, .ref a8, .int mm.sd])), (a1, .inl (cI, 49, .inl gg.r)), (a2, .inl (cI, 49, .inl mm.m)), (a3, .inl (cI, 49, .inl gg.im)), (a4, .inl (cI, 49, .inl mm.ws)), (a5, .inl (cI, 96, .inl gg.lt)), (a6, .inl (cI, 16, .inl gg.rw)), (a7, .inl (cI, 7, .inl gg.rf)), (a8, .inl (cI, 3, .inl mm.nb))] sz)) 0 0 (va_A [(a0, .inr (3, [.ref a1, .ref a2, .ref a3, .ref a4, .int gg.hs, .ref a5, .ref a6, .ref a7, .int (nI gg.L), .int (nI gg.M), .int mm.pl, .ref a8, .int mm.sd])), (a1, .inl (cI, 49, .inl gg.r)), (a2, .inl (cI, 49, .inl mm.m)), (a3, .inl (cI, 49, .inl gg.im)), (a4, .inl (cI, 49, .inl mm.ws)), (a5, .inl (cI, 96, .inl gg.lt)), (a6, .inl (cI, 16, .inl gg.rw)), (a7, .inl (cI, 7, .inl gg.rf)), (a8, .inl (cI, 3, .inl mm.nb))] sz) := by
  refine st_rwi (cc := cX4_wears) (maxL := 5) (rt := .int) (by decide) rfl (Nat.le_of_ble_eq_true rfl) (fun _ _ _ => rfl) ?_
  intro p e s m below meth c Q ls A hx hb hml hts hown hP hK hD hA hS hl hret
  replace hown : s.vm.findClass RX4 = some m.cls := hown
  replace hl : lv_has ls 5 [(0, .ref a0), (1, .int p0), (2, .int p1)] := hl
  obtain ⟨H, hH⟩ : ∃ z, z = s.heap := ⟨_, rfl⟩
  obtain ⟨locs, hlo⟩ : ∃ z : List Loc, z = [] := ⟨_, rfl⟩
  replace hP : va_P D vwCl [(a0, .inr (3, [.ref a1, .ref a2, .ref a3, .ref a4, .int gg.hs, .ref a5, .ref a6, .ref a7, .int (nI gg.L), .int (nI gg.M), .int mm.pl, .ref a8, .int mm.sd])), (a1, .inl (cI, 49, .inl gg.r)), (a2, .inl (cI, 49, .inl mm.m)), (a3, .inl (cI, 49, .inl gg.im)), (a4, .inl (cI, 49, .inl mm.ws)), (a5, .inl (cI, 96, .inl gg.lt)), (a6, .inl (cI, 16, .inl gg.rw)), (a7, .inl (cI, 7, .inl gg.rf)), (a8, .inl (cI, 3, .inl mm.nb))] H := by rw [hH]; exact hP
  replace hS : va_S A s.heap H locs := by rw [hH, hlo]; exact hS
  show W p l e ({ frames := 2, cells := 0, slots := 0, locals := 43 }) s m [.ref a0, .int p0, .int p1].toArray below meth c s.heap [] 0 0 Q (F0 m 0 ls [])
  rw [← hlo]
  suffices hgo : W p l e ({ frames := 2, cells := 0, slots := 0, locals := 43 }) s m [.ref a0, .int p0, .int p1].toArray below meth c H locs 0 0 Q (F0 m 0 ls []) by rw [hH] at hgo; exact hgo
  clear hH hlo
  have hi_X4 : ∀ w ∈ wsX40, w ∈ wsX4_wears := fun w h => List.mem_cons_of_mem _ (List.mem_append_right _ (h))
  have hk_9 := hts (.fieldLink RX4 9 "NestsOfTalkModel" "s" "[I") (List.mem_of_getElem? (i := 1) rfl)
  have hI := hG.inv
  have hn9 := hI.le
  have hL96 := hG.L96
  have hM16 := hG.M16
  refine lv_aload_n hx hb dX4_wears_0 rfl (lv_at hl 0 rfl) ?_
  refine lv_iload_n hx hb dX4_wears_1 rfl (lv_at hl 1 rfl) ?_
  refine xc_Vi (As := [.int p0]) (rest := []) ⟨hx, hb, hml, hown, hts⟩ (kX4_isSaying l D cI a0 a1 a2 a3 a4 a5 a6 a7 a8 gg mm gg.n hI p0) (cwV 1 hts gX4_wears_X4_isSaying rfl rfl rfl hv_X4_isSaying ⟨Nat.le_of_ble_eq_true rfl, Nat.le_of_ble_eq_true rfl⟩) hK hP [0, 1] rfl 0 rfl rfl rfl hl.1 rfl (Nat.le_of_ble_eq_true rfl) dX4_wears_2 ⟨Nat.zero_le _, Nat.zero_le _⟩ (fun r_1 hr_1 => ?_)
  refine lv_if_eq (tgt := 18) hx hb dX4_wears_5 (by decide) (fun c_2 => ?_) (fun c_2 => ?_)
  · skip
    have hb_2 : sayB gg.n p0 = false := bool_f hr_1 c_2
    refine lv_iconst (v := (-1)) hx hb dX4_wears_18 (by decide) ?_
    refine lv_istore_n (lv' := [(3, .int (-1)), (0, .ref a0), (1, .int p0), (2, .int p1)]) hx hb dX4_wears_19 rfl hl (by decide) rfl (fun ls hl => ?_)
    refine lv_iload_n hx hb dX4_wears_20 rfl (lv_at hl 0 rfl) ?_
    refine lv_if_eq (tgt := 30) hx hb dX4_wears_21 (by decide) (fun c_3 => ?_) (fun c_3 => ?_)
    · skip
      exact absurd c_3 (by decide)
    refine lv_aload_n hx hb dX4_wears_24 rfl (lv_at hl 1 rfl) ?_
    refine lv_iload_n hx hb dX4_wears_25 rfl (lv_at hl 0 rfl) ?_
    refine xw_Vi (As := [.int (-1)]) (rest := []) (Wn := fun u => [(a0, .inr (3, [.ref a1, .ref a2, .ref a3, .ref a4, .int gg.hs, .ref a5, .ref a6, .ref a7, .int (nI gg.L), .int (nI gg.M), .int mm.pl, .ref a8, .int mm.sd])), (a1, .inl (cI, 49, .inl gg.r)), (a2, .inl (cI, 49, .inl mm.m)), (a3, .inl (cI, 49, .inl gg.im)), (a4, .inl (cI, 49, .inl mm.ws)), (a5, .inl (cI, 96, .inl gg.lt)), (a6, .inl (cI, 16, .inl gg.rw)), (a7, .inl (cI, 7, .inl (upd gg.rf (cN (-1)) (gg.rf (cN (-1)) + 1)))), (a8, .inl (cI, 3, .inl mm.nb))]) (Wr := [(a1, .inl (cI, 49, .inl gg.r)), (a2, .inl (cI, 49, .inl mm.m)), (a3, .inl (cI, 49, .inl gg.im)), (a4, .inl (cI, 49, .inl mm.ws)), (a5, .inl (cI, 96, .inl gg.lt)), (a6, .inl (cI, 16, .inl gg.rw)), (a8, .inl (cI, 3, .inl mm.nb))]) ⟨hx, hb, hml, hown, hts⟩ (kX4_no l D cI H.size a0 a1 a2 a3 a4 a5 a6 a7 a8 gg mm (-1) okc_1) (cwV 1 hts gX4_wears_X4_no rfl rfl rfl hv_X4_no ⟨Nat.le_of_ble_eq_true rfl, Nat.le_of_ble_eq_true rfl⟩) hK hP hD hS hA [0, 7] [1, 2, 3, 4, 5, 6, 8] [7, 0, 1, 2, 3, 4, 5, 8, 6] rfl rfl (by decide) (by decide) (by decide) (by decide) (fun u => rfl) 0 rfl rfl rfl hl.1 rfl (Nat.le_of_ble_eq_true rfl) dX4_wears_26 ⟨Nat.zero_le _, Nat.zero_le _⟩ (fun r_4 u_4 H locs hw_4 hP hD hS => ?_)
    exact hret 29 _ r_4 ((gg.n, gg.r, gg.m, gg.im, gg.hs, gg.lt, gg.L, gg.rw, gg.M, (upd gg.rf (cN (-1)) (gg.rf (cN (-1)) + 1))), mm) _ _ dX4_wears_29 (by first | (simp [sp_wears, rfz, us, c_2, hb_2, hw_4]; done) | (simp [sp_wears, rfz, us, c_2, hb_2, hw_4, isI]; done) | (simp [sp_wears, rfz, us, c_2, hb_2, hw_4, wrB, lackF]; done)) hP hD hS
  have hb_2 : sayB gg.n p0 = true := bool_t hr_1 c_2
  obtain ⟨t_2, ht_2, et_2⟩ := (sayB_iff (hI).le).1 hb_2
  have tn_2 : tN p0 = t_2 := by rw [et_2]; exact tN_nI (by omega)
  refine lv_iload_n hx hb dX4_wears_8 rfl (lv_at hl 2 rfl) ?_
  refine lv_iconst (v := 0) hx hb dX4_wears_9 (by decide) ?_
  refine lv_bipush (v := 9) hx hb dX4_wears_10 (by decide) ?_
  refine xc_Si (As := [.int p1, .int 0, .int 9]) (rest := []) ⟨hx, hb, hml, hown, hts⟩ (kX4_wrongBy l D cI p1 0 9) (va_cwS 3 hts gX4_wears_X4_wrongBy rfl rfl rfl hs_X4_wrongBy ⟨Nat.le_of_ble_eq_true rfl, Nat.le_of_ble_eq_true rfl⟩) hK hP [] rfl rfl hl.1 rfl (Nat.le_of_ble_eq_true rfl) dX4_wears_12 ⟨Nat.zero_le _, Nat.zero_le _⟩ (fun r_5 hr_5 => ?_)
  replace hr_5 : r_5 = wrB p1 0 9 := hr_5
  refine lv_goto (tgt := 19) hx hb dX4_wears_15 (by decide) ?_
  refine lv_istore_n (lv' := [(3, .int r_5), (0, .ref a0), (1, .int p0), (2, .int p1)]) hx hb dX4_wears_19 rfl hl (by decide) rfl (fun ls hl => ?_)
  refine lv_iload_n hx hb dX4_wears_20 rfl (lv_at hl 0 rfl) ?_
  refine lv_if_eq (tgt := 30) hx hb dX4_wears_21 (by decide) (fun c_6 => ?_) (fun c_6 => ?_)
  · skip
    have hv_6 : wrB p1 0 9 = 0 := hr_5.symm.trans c_6
    obtain ⟨v_6, vl_6, vu_6, ev_6⟩ := wrB_nat (a := 0) (b := 9) (rfl : (0 : Int32) = nI 0) (rfl : (9 : Int32) = nI 9) (by decide) (by decide) hv_6
    have tn_6 : tN p1 = v_6 := by rw [ev_6]; exact tN_nI (by omega)
    refine lv_aload_n hx hb dX4_wears_30 rfl (lv_at hl 1 rfl) ?_
    refine va_get (D := D) (ci := 3) (v := .ref a1) (C := RX4) (T := TX4) (N := 13) hx hb hts hi_X4 hown hK.1 hP 0 rfl rfl 0 (by decide) hk_9 (fun _ h9 => h9) rfl dX4_wears_31 ?_
    refine lv_iload_n hx hb dX4_wears_34 rfl (lv_at hl 2 rfl) ?_
    refine lv_iconst (v := 3) hx hb dX4_wears_35 (by decide) ?_
    refine xc_Si (As := [.int p0, .int 3]) (rest := [.ref a1]) ⟨hx, hb, hml, hown, hts⟩ (kX4_of l D cI p0 3 t_2 3 et_2 (rfl : (3 : Int32) = nI 3)) (va_cwS 2 hts gX4_wears_X4_of rfl rfl rfl hs_X4_of ⟨Nat.le_of_ble_eq_true rfl, Nat.le_of_ble_eq_true rfl⟩) hK hP [] rfl rfl hl.1 rfl (Nat.le_of_ble_eq_true rfl) dX4_wears_36 ⟨Nat.zero_le _, Nat.zero_le _⟩ (fun r_7 hr_7 => ?_)
    refine xa_ld hx hb hK hP 1 rfl (j := (oF t_2 3)) hr_7 (oF_lt (by omega) (by omega)) (by decide) dX4_wears_39 ?_
    refine lv_topi (fun x_8 ex_8 => ?_)
    refine lv_istore (lv' := [(4, .int x_8), (3, .int r_5), (0, .ref a0), (1, .int p0), (2, .int p1)]) hx hb dX4_wears_40 hl (by decide) rfl (fun ls hl => ?_)
    refine lv_aload_n hx hb dX4_wears_42 rfl (lv_at hl 2 rfl) ?_
    refine va_get (D := D) (ci := 3) (v := .ref a1) (C := RX4) (T := TX4) (N := 13) hx hb hts hi_X4 hown hK.1 hP 0 rfl rfl 0 (by decide) hk_9 (fun _ h9 => h9) rfl dX4_wears_43 ?_
    refine lv_iload_n hx hb dX4_wears_46 rfl (lv_at hl 3 rfl) ?_
    refine lv_iconst (v := 3) hx hb dX4_wears_47 (by decide) ?_
    refine xc_Si (As := [.int p0, .int 3]) (rest := [.ref a1]) ⟨hx, hb, hml, hown, hts⟩ (kX4_of l D cI p0 3 t_2 3 et_2 (rfl : (3 : Int32) = nI 3)) (va_cwS 2 hts gX4_wears_X4_of rfl rfl rfl hs_X4_of ⟨Nat.le_of_ble_eq_true rfl, Nat.le_of_ble_eq_true rfl⟩) hK hP [] rfl rfl hl.1 rfl (Nat.le_of_ble_eq_true rfl) dX4_wears_48 ⟨Nat.zero_le _, Nat.zero_le _⟩ (fun r_9 hr_9 => ?_)
    refine lv_iload_n hx hb dX4_wears_51 rfl (lv_at hl 4 rfl) ?_
    refine xa_st hx hb hK hP hD hS 1 rfl (j := (oF t_2 3)) hr_9 (oF_lt (by omega) (by omega)) (by decide) dX4_wears_52 (fun H locs hP hD hS => ?_)
    obtain ⟨f_10, ef_10⟩ : ∃ z : Nat → Int32, z = upd gg.r (oF t_2 3) p1 := ⟨_, rfl⟩
    replace hP : va_P D vwCl [(a0, .inr (3, [.ref a1, .ref a2, .ref a3, .ref a4, .int gg.hs, .ref a5, .ref a6, .ref a7, .int (nI gg.L), .int (nI gg.M), .int mm.pl, .ref a8, .int mm.sd])), (a1, .inl (cI, 49, .inl (upd gg.r (oF t_2 3) p1))), (a2, .inl (cI, 49, .inl mm.m)), (a3, .inl (cI, 49, .inl gg.im)), (a4, .inl (cI, 49, .inl mm.ws)), (a5, .inl (cI, 96, .inl gg.lt)), (a6, .inl (cI, 16, .inl gg.rw)), (a7, .inl (cI, 7, .inl gg.rf)), (a8, .inl (cI, 3, .inl mm.nb))] H := hP
    replace hD : va_D A [(a0, .inr (3, [.ref a1, .ref a2, .ref a3, .ref a4, .int gg.hs, .ref a5, .ref a6, .ref a7, .int (nI gg.L), .int (nI gg.M), .int mm.pl, .ref a8, .int mm.sd])), (a1, .inl (cI, 49, .inl (upd gg.r (oF t_2 3) p1))), (a2, .inl (cI, 49, .inl mm.m)), (a3, .inl (cI, 49, .inl gg.im)), (a4, .inl (cI, 49, .inl mm.ws)), (a5, .inl (cI, 96, .inl gg.lt)), (a6, .inl (cI, 16, .inl gg.rw)), (a7, .inl (cI, 7, .inl gg.rf)), (a8, .inl (cI, 3, .inl mm.nb))] := hD
    rw [← ef_10] at hP hD
    refine lv_iload hx hb dX4_wears_53 (lv_at hl 0 rfl) ?_
    exact hret 55 _ x_8 ((gg.n, f_10, gg.m, gg.im, gg.hs, gg.lt, gg.L, gg.rw, gg.M, gg.rf), mm) _ _ dX4_wears_55 (by first | (simp [sp_wears, rfz, us, c_2, c_6, hb_2, tn_2, hv_6, tn_6, hr_5, hr_7, ex_8, hr_9, ef_10]; done) | (simp [sp_wears, rfz, us, c_2, c_6, hb_2, tn_2, hv_6, tn_6, hr_5, hr_7, ex_8, hr_9, ef_10, isI]; done) | (simp [sp_wears, rfz, us, c_2, c_6, hb_2, tn_2, hv_6, tn_6, hr_5, hr_7, ex_8, hr_9, ef_10, wrB, lackF]; done)) hP hD hS
  have hv_6 : ¬ wrB p1 0 9 = 0 := fun q => c_6 (hr_5.trans q)
  refine lv_aload_n hx hb dX4_wears_24 rfl (lv_at hl 1 rfl) ?_
  refine lv_iload_n hx hb dX4_wears_25 rfl (lv_at hl 0 rfl) ?_
  refine xw_Vi (As := [.int r_5]) (rest := []) (Wn := fun u => [(a0, .inr (3, [.ref a1, .ref a2, .ref a3, .ref a4, .int gg.hs, .ref a5, .ref a6, .ref a7, .int (nI gg.L), .int (nI gg.M), .int mm.pl, .ref a8, .int mm.sd])), (a1, .inl (cI, 49, .inl gg.r)), (a2, .inl (cI, 49, .inl mm.m)), (a3, .inl (cI, 49, .inl gg.im)), (a4, .inl (cI, 49, .inl mm.ws)), (a5, .inl (cI, 96, .inl gg.lt)), (a6, .inl (cI, 16, .inl gg.rw)), (a7, .inl (cI, 7, .inl (upd gg.rf (cN r_5) (gg.rf (cN r_5) + 1)))), (a8, .inl (cI, 3, .inl mm.nb))]) (Wr := [(a1, .inl (cI, 49, .inl gg.r)), (a2, .inl (cI, 49, .inl mm.m)), (a3, .inl (cI, 49, .inl gg.im)), (a4, .inl (cI, 49, .inl mm.ws)), (a5, .inl (cI, 96, .inl gg.lt)), (a6, .inl (cI, 16, .inl gg.rw)), (a8, .inl (cI, 3, .inl mm.nb))]) ⟨hx, hb, hml, hown, hts⟩ (kX4_no l D cI H.size a0 a1 a2 a3 a4 a5 a6 a7 a8 gg mm r_5 (okc_of hr_5 c_6)) (cwV 1 hts gX4_wears_X4_no rfl rfl rfl hv_X4_no ⟨Nat.le_of_ble_eq_true rfl, Nat.le_of_ble_eq_true rfl⟩) hK hP hD hS hA [0, 7] [1, 2, 3, 4, 5, 6, 8] [7, 0, 1, 2, 3, 4, 5, 8, 6] rfl rfl (by decide) (by decide) (by decide) (by decide) (fun u => rfl) 0 rfl rfl rfl hl.1 rfl (Nat.le_of_ble_eq_true rfl) dX4_wears_26 ⟨Nat.zero_le _, Nat.zero_le _⟩ (fun r_11 u_11 H locs hw_11 hP hD hS => ?_)
  exact hret 29 _ r_11 ((gg.n, gg.r, gg.m, gg.im, gg.hs, gg.lt, gg.L, gg.rw, gg.M, (upd gg.rf (cN r_5) (gg.rf (cN r_5) + 1))), mm) _ _ dX4_wears_29 (by first | (simp [sp_wears, rfz, us, c_2, c_6, hb_2, tn_2, hv_6, hw_11, hr_5]; done) | (simp [sp_wears, rfz, us, c_2, c_6, hb_2, tn_2, hv_6, hw_11, hr_5, isI]; done) | (simp [sp_wears, rfz, us, c_2, c_6, hb_2, tn_2, hv_6, hw_11, hr_5, wrB, lackF]; done)) hP hD hS

set_option maxHeartbeats 4000000 in
set_option maxRecDepth 100000 in
theorem kX4_turn (l : Launch) (D : va_G) (cI : ClassId) (sz : Nat) (a0 a1 a2 a3 a4 a5 a6 a7 a8 : Nat) (gg : GG) (mm : MS) (hG : Good gg) (p0 p1 p2 : Int32) : Met l yX4_turn wsX4_turn ({ frames := 2, cells := 0, slots := 0, locals := 43 }) (PRW D cI [.ref a0, .int p0, .int p1, .int p2] [(a0, .inr (3, [.ref a1, .ref a2, .ref a3, .ref a4, .int gg.hs, .ref a5, .ref a6, .ref a7, .int (nI gg.L), .int (nI gg.M), .int mm.pl, .ref a8, .int mm.sd])), (a1, .inl (cI, 49, .inl gg.r)), (a2, .inl (cI, 49, .inl mm.m)), (a3, .inl (cI, 49, .inl gg.im)), (a4, .inl (cI, 49, .inl mm.ws)), (a5, .inl (cI, 96, .inl gg.lt)), (a6, .inl (cI, 16, .inl gg.rw)), (a7, .inl (cI, 7, .inl gg.rf)), (a8, .inl (cI, 3, .inl mm.nb))] sz) (va_Qi (S := GG × MS) (fun v u => (v, u.1) = sp_turn gg p0 p1 p2) (BRW D [(a0, .inr (3, [.ref a1, .ref a2, .ref a3, .ref a4, .int gg.hs, .ref a5, .ref a6, .ref a7, .int (nI gg.L), .int (nI gg.M), .int mm.pl, .ref a8, .int mm.sd])), (a1, .inl (cI, 49, .inl gg.r)), (a2, .inl (cI, 49, .inl mm.m)), (a3, .inl (cI, 49, .inl gg.im)), (a4, .inl (cI, 49, .inl mm.ws)), (a5, .inl (cI, 96, .inl gg.lt)), (a6, .inl (cI, 16, .inl gg.rw)), (a7, .inl (cI, 7, .inl gg.rf)), (a8, .inl (cI, 3, .inl mm.nb))] sz (fun u => [(a0, .inr (3, [.ref a1, .ref a2, .ref a3, .ref a4, .int u.1.hs, .ref a5, .ref a6, .ref a7, .int (nI u.1.L), .int (nI u.1.M), .int u.2.pl, .ref a8, .int u.2.sd])), (a1, .inl (cI, 49, .inl u.1.r)), (a2, .inl (cI, 49, .inl u.2.m)), (a3, .inl (cI, 49, .inl u.1.im)), (a4, .inl (cI, 49, .inl u.2.ws)), (a5, .inl (cI, 96, .inl u.1.lt)), (a6, .inl (cI, 16, .inl u.1.rw)), (a7, .inl (cI, 7, .inl u.1.rf)), (a8, .inl (cI, 3, .inl u.2.nb))])) (va_A [(a0, .inr (3, [.ref a1, .ref a2, .ref a3, .ref a4, .int gg.hs, .ref a5, .ref a6, .ref a7, .int (nI gg.L), .int (nI gg.M), .int mm.pl, .ref a8, .int mm.sd])), (a1, .inl (cI, 49, .inl gg.r)), (a2, .inl (cI, 49, .inl mm.m)), (a3, .inl (cI, 49, .inl gg.im)), (a4, .inl (cI, 49, .inl mm.ws)), (a5, .inl (cI, 96, .inl gg.lt)), (a6, .inl (cI, 16, .inl gg.rw)), (a7, .inl (cI, 7, .inl gg.rf)), (a8, .inl (cI, 3, .inl mm.nb))] sz)) 0 0 (va_A [(a0, .inr (3, [.ref a1, .ref a2, .ref a3, .ref a4, .int gg.hs, .ref a5, .ref a6, .ref a7, .int (nI gg.L), .int (nI gg.M), .int mm.pl, .ref a8, .int mm.sd])), (a1, .inl (cI, 49, .inl gg.r)), (a2, .inl (cI, 49, .inl mm.m)), (a3, .inl (cI, 49, .inl gg.im)), (a4, .inl (cI, 49, .inl mm.ws)), (a5, .inl (cI, 96, .inl gg.lt)), (a6, .inl (cI, 16, .inl gg.rw)), (a7, .inl (cI, 7, .inl gg.rf)), (a8, .inl (cI, 3, .inl mm.nb))] sz) := by
  refine st_rwi (cc := cX4_turn) (maxL := 6) (rt := .int) (by decide) rfl (Nat.le_of_ble_eq_true rfl) (fun _ _ _ => rfl) ?_
  intro p e s m below meth c Q ls A hx hb hml hts hown hP hK hD hA hS hl hret
  replace hown : s.vm.findClass RX4 = some m.cls := hown
  replace hl : lv_has ls 6 [(0, .ref a0), (1, .int p0), (2, .int p1), (3, .int p2)] := hl
  obtain ⟨H, hH⟩ : ∃ z, z = s.heap := ⟨_, rfl⟩
  obtain ⟨locs, hlo⟩ : ∃ z : List Loc, z = [] := ⟨_, rfl⟩
  replace hP : va_P D vwCl [(a0, .inr (3, [.ref a1, .ref a2, .ref a3, .ref a4, .int gg.hs, .ref a5, .ref a6, .ref a7, .int (nI gg.L), .int (nI gg.M), .int mm.pl, .ref a8, .int mm.sd])), (a1, .inl (cI, 49, .inl gg.r)), (a2, .inl (cI, 49, .inl mm.m)), (a3, .inl (cI, 49, .inl gg.im)), (a4, .inl (cI, 49, .inl mm.ws)), (a5, .inl (cI, 96, .inl gg.lt)), (a6, .inl (cI, 16, .inl gg.rw)), (a7, .inl (cI, 7, .inl gg.rf)), (a8, .inl (cI, 3, .inl mm.nb))] H := by rw [hH]; exact hP
  replace hS : va_S A s.heap H locs := by rw [hH, hlo]; exact hS
  show W p l e ({ frames := 2, cells := 0, slots := 0, locals := 43 }) s m [.ref a0, .int p0, .int p1, .int p2].toArray below meth c s.heap [] 0 0 Q (F0 m 0 ls [])
  rw [← hlo]
  suffices hgo : W p l e ({ frames := 2, cells := 0, slots := 0, locals := 43 }) s m [.ref a0, .int p0, .int p1, .int p2].toArray below meth c H locs 0 0 Q (F0 m 0 ls []) by rw [hH] at hgo; exact hgo
  clear hH hlo
  have hi_X4 : ∀ w ∈ wsX40, w ∈ wsX4_turn := fun w h => List.mem_cons_of_mem _ (List.mem_append_right _ (h))
  have hk_9 := hts (.fieldLink RX4 9 "NestsOfTalkModel" "s" "[I") (List.mem_of_getElem? (i := 1) rfl)
  have hI := hG.inv
  have hn9 := hI.le
  have hL96 := hG.L96
  have hM16 := hG.M16
  refine lv_aload_n hx hb dX4_turn_0 rfl (lv_at hl 0 rfl) ?_
  refine lv_iload_n hx hb dX4_turn_1 rfl (lv_at hl 1 rfl) ?_
  refine xc_Vi (As := [.int p0]) (rest := []) ⟨hx, hb, hml, hown, hts⟩ (kX4_isSaying l D cI a0 a1 a2 a3 a4 a5 a6 a7 a8 gg mm gg.n hI p0) (cwV 1 hts gX4_turn_X4_isSaying rfl rfl rfl hv_X4_isSaying ⟨Nat.le_of_ble_eq_true rfl, Nat.le_of_ble_eq_true rfl⟩) hK hP [0, 1] rfl 0 rfl rfl rfl hl.1 rfl (Nat.le_of_ble_eq_true rfl) dX4_turn_2 ⟨Nat.zero_le _, Nat.zero_le _⟩ (fun r_1 hr_1 => ?_)
  refine lv_if_ne (tgt := 12) hx hb dX4_turn_5 (by decide) (fun c_2 => ?_) (fun c_2 => ?_)
  · skip
    have hb_2 : sayB gg.n p0 = true := bool_t hr_1 c_2
    obtain ⟨t_2, ht_2, et_2⟩ := (sayB_iff (hI).le).1 hb_2
    have tn_2 : tN p0 = t_2 := by rw [et_2]; exact tN_nI (by omega)
    refine lv_iload_n hx hb dX4_turn_12 rfl (lv_at hl 2 rfl) ?_
    refine lv_iconst (v := 0) hx hb dX4_turn_13 (by decide) ?_
    refine lv_iconst (v := 5) hx hb dX4_turn_14 (by decide) ?_
    refine xc_Si (As := [.int p1, .int 0, .int 5]) (rest := []) ⟨hx, hb, hml, hown, hts⟩ (kX4_isIn l D cI p1 0 5) (va_cwS 3 hts gX4_turn_X4_isIn rfl rfl rfl hs_X4_isIn ⟨Nat.le_of_ble_eq_true rfl, Nat.le_of_ble_eq_true rfl⟩) hK hP [] rfl rfl hl.1 rfl (Nat.le_of_ble_eq_true rfl) dX4_turn_15 ⟨Nat.zero_le _, Nat.zero_le _⟩ (fun r_3 hr_3 => ?_)
    refine lv_if_ne (tgt := 26) hx hb dX4_turn_18 (by decide) (fun c_4 => ?_) (fun c_4 => ?_)
    · skip
      have hb_4 : isI p1 0 5 = true := bool_t (hr_3.trans isI_ite) c_4
      obtain ⟨i_4, il_4, iu_4, ei_4⟩ := isI_nat (a := 0) (b := 5) (rfl : (0 : Int32) = nI 0) (rfl : (5 : Int32) = nI 5) (by decide) (by omega) hb_4
      have tn_4 : tN p1 = i_4 := by rw [ei_4]; exact tN_nI (by omega)
      refine lv_iload_n hx hb dX4_turn_26 rfl (lv_at hl 3 rfl) ?_
      refine lv_iconst (v := 0) hx hb dX4_turn_27 (by decide) ?_
      refine lv_bipush (v := 9) hx hb dX4_turn_28 (by decide) ?_
      refine xc_Si (As := [.int p2, .int 0, .int 9]) (rest := []) ⟨hx, hb, hml, hown, hts⟩ (kX4_wrongBy l D cI p2 0 9) (va_cwS 3 hts gX4_turn_X4_wrongBy rfl rfl rfl hs_X4_wrongBy ⟨Nat.le_of_ble_eq_true rfl, Nat.le_of_ble_eq_true rfl⟩) hK hP [] rfl rfl hl.1 rfl (Nat.le_of_ble_eq_true rfl) dX4_turn_30 ⟨Nat.zero_le _, Nat.zero_le _⟩ (fun r_5 hr_5 => ?_)
      replace hr_5 : r_5 = wrB p2 0 9 := hr_5
      refine lv_istore (lv' := [(4, .int r_5), (0, .ref a0), (1, .int p0), (2, .int p1), (3, .int p2)]) hx hb dX4_turn_33 hl (by decide) rfl (fun ls hl => ?_)
      refine lv_iload hx hb dX4_turn_35 (lv_at hl 0 rfl) ?_
      refine lv_if_eq (tgt := 47) hx hb dX4_turn_37 (by decide) (fun c_6 => ?_) (fun c_6 => ?_)
      · skip
        have hv_6 : wrB p2 0 9 = 0 := hr_5.symm.trans c_6
        obtain ⟨v_6, vl_6, vu_6, ev_6⟩ := wrB_nat (a := 0) (b := 9) (rfl : (0 : Int32) = nI 0) (rfl : (9 : Int32) = nI 9) (by decide) (by decide) hv_6
        have tn_6 : tN p2 = v_6 := by rw [ev_6]; exact tN_nI (by omega)
        refine lv_bipush (v := 10) hx hb dX4_turn_47 (by decide) ?_
        refine lv_aload_n hx hb dX4_turn_49 rfl (lv_at hl 1 rfl) ?_
        refine va_get (D := D) (ci := 3) (v := .ref a1) (C := RX4) (T := TX4) (N := 13) hx hb hts hi_X4 hown hK.1 hP 0 rfl rfl 0 (by decide) hk_9 (fun _ h9 => h9) rfl dX4_turn_50 ?_
        refine lv_iload_n hx hb dX4_turn_53 rfl (lv_at hl 2 rfl) ?_
        refine lv_iconst (v := 0) hx hb dX4_turn_54 (by decide) ?_
        refine xc_Si (As := [.int p0, .int 0]) (rest := [.ref a1, .int 10]) ⟨hx, hb, hml, hown, hts⟩ (kX4_of l D cI p0 0 t_2 0 et_2 (rfl : (0 : Int32) = nI 0)) (va_cwS 2 hts gX4_turn_X4_of rfl rfl rfl hs_X4_of ⟨Nat.le_of_ble_eq_true rfl, Nat.le_of_ble_eq_true rfl⟩) hK hP [] rfl rfl hl.1 rfl (Nat.le_of_ble_eq_true rfl) dX4_turn_55 ⟨Nat.zero_le _, Nat.zero_le _⟩ (fun r_7 hr_7 => ?_)
        refine xa_ld hx hb hK hP 1 rfl (j := (oF t_2 0)) hr_7 (oF_lt (by omega) (by omega)) (by decide) dX4_turn_58 ?_
        refine lv_imul hx hb dX4_turn_59 ?_
        refine lv_aload_n hx hb dX4_turn_60 rfl (lv_at hl 1 rfl) ?_
        refine va_get (D := D) (ci := 3) (v := .ref a1) (C := RX4) (T := TX4) (N := 13) hx hb hts hi_X4 hown hK.1 hP 0 rfl rfl 0 (by decide) hk_9 (fun _ h9 => h9) rfl dX4_turn_61 ?_
        refine lv_iload_n hx hb dX4_turn_64 rfl (lv_at hl 2 rfl) ?_
        refine lv_iconst (v := 1) hx hb dX4_turn_65 (by decide) ?_
        refine xc_Si (As := [.int p0, .int 1]) (rest := [.ref a1, .int (10 * (gg.r (oF t_2 0)))]) ⟨hx, hb, hml, hown, hts⟩ (kX4_of l D cI p0 1 t_2 1 et_2 (rfl : (1 : Int32) = nI 1)) (va_cwS 2 hts gX4_turn_X4_of rfl rfl rfl hs_X4_of ⟨Nat.le_of_ble_eq_true rfl, Nat.le_of_ble_eq_true rfl⟩) hK hP [] rfl rfl hl.1 rfl (Nat.le_of_ble_eq_true rfl) dX4_turn_66 ⟨Nat.zero_le _, Nat.zero_le _⟩ (fun r_8 hr_8 => ?_)
        refine xa_ld hx hb hK hP 1 rfl (j := (oF t_2 1)) hr_8 (oF_lt (by omega) (by omega)) (by decide) dX4_turn_69 ?_
        refine lv_iadd hx hb dX4_turn_70 ?_
        refine lv_topi (fun x_9 ex_9 => ?_)
        refine lv_istore (lv' := [(5, .int x_9), (4, .int r_5), (0, .ref a0), (1, .int p0), (2, .int p1), (3, .int p2)]) hx hb dX4_turn_71 hl (by decide) rfl (fun ls hl => ?_)
        refine lv_aload_n hx hb dX4_turn_73 rfl (lv_at hl 2 rfl) ?_
        refine va_get (D := D) (ci := 3) (v := .ref a1) (C := RX4) (T := TX4) (N := 13) hx hb hts hi_X4 hown hK.1 hP 0 rfl rfl 0 (by decide) hk_9 (fun _ h9 => h9) rfl dX4_turn_74 ?_
        refine lv_iload_n hx hb dX4_turn_77 rfl (lv_at hl 3 rfl) ?_
        refine lv_iconst (v := 0) hx hb dX4_turn_78 (by decide) ?_
        refine xc_Si (As := [.int p0, .int 0]) (rest := [.ref a1]) ⟨hx, hb, hml, hown, hts⟩ (kX4_of l D cI p0 0 t_2 0 et_2 (rfl : (0 : Int32) = nI 0)) (va_cwS 2 hts gX4_turn_X4_of rfl rfl rfl hs_X4_of ⟨Nat.le_of_ble_eq_true rfl, Nat.le_of_ble_eq_true rfl⟩) hK hP [] rfl rfl hl.1 rfl (Nat.le_of_ble_eq_true rfl) dX4_turn_79 ⟨Nat.zero_le _, Nat.zero_le _⟩ (fun r_10 hr_10 => ?_)
        refine lv_iload_n hx hb dX4_turn_82 rfl (lv_at hl 4 rfl) ?_
        refine xa_st hx hb hK hP hD hS 1 rfl (j := (oF t_2 0)) hr_10 (oF_lt (by omega) (by omega)) (by decide) dX4_turn_83 (fun H locs hP hD hS => ?_)
        obtain ⟨f_11, ef_11⟩ : ∃ z : Nat → Int32, z = upd gg.r (oF t_2 0) p1 := ⟨_, rfl⟩
        replace hP : va_P D vwCl [(a0, .inr (3, [.ref a1, .ref a2, .ref a3, .ref a4, .int gg.hs, .ref a5, .ref a6, .ref a7, .int (nI gg.L), .int (nI gg.M), .int mm.pl, .ref a8, .int mm.sd])), (a1, .inl (cI, 49, .inl (upd gg.r (oF t_2 0) p1))), (a2, .inl (cI, 49, .inl mm.m)), (a3, .inl (cI, 49, .inl gg.im)), (a4, .inl (cI, 49, .inl mm.ws)), (a5, .inl (cI, 96, .inl gg.lt)), (a6, .inl (cI, 16, .inl gg.rw)), (a7, .inl (cI, 7, .inl gg.rf)), (a8, .inl (cI, 3, .inl mm.nb))] H := hP
        replace hD : va_D A [(a0, .inr (3, [.ref a1, .ref a2, .ref a3, .ref a4, .int gg.hs, .ref a5, .ref a6, .ref a7, .int (nI gg.L), .int (nI gg.M), .int mm.pl, .ref a8, .int mm.sd])), (a1, .inl (cI, 49, .inl (upd gg.r (oF t_2 0) p1))), (a2, .inl (cI, 49, .inl mm.m)), (a3, .inl (cI, 49, .inl gg.im)), (a4, .inl (cI, 49, .inl mm.ws)), (a5, .inl (cI, 96, .inl gg.lt)), (a6, .inl (cI, 16, .inl gg.rw)), (a7, .inl (cI, 7, .inl gg.rf)), (a8, .inl (cI, 3, .inl mm.nb))] := hD
        rw [← ef_11] at hP hD
        refine lv_aload_n hx hb dX4_turn_84 rfl (lv_at hl 2 rfl) ?_
        refine va_get (D := D) (ci := 3) (v := .ref a1) (C := RX4) (T := TX4) (N := 13) hx hb hts hi_X4 hown hK.1 hP 0 rfl rfl 0 (by decide) hk_9 (fun _ h9 => h9) rfl dX4_turn_85 ?_
        refine lv_iload_n hx hb dX4_turn_88 rfl (lv_at hl 3 rfl) ?_
        refine lv_iconst (v := 1) hx hb dX4_turn_89 (by decide) ?_
        refine xc_Si (As := [.int p0, .int 1]) (rest := [.ref a1]) ⟨hx, hb, hml, hown, hts⟩ (kX4_of l D cI p0 1 t_2 1 et_2 (rfl : (1 : Int32) = nI 1)) (va_cwS 2 hts gX4_turn_X4_of rfl rfl rfl hs_X4_of ⟨Nat.le_of_ble_eq_true rfl, Nat.le_of_ble_eq_true rfl⟩) hK hP [] rfl rfl hl.1 rfl (Nat.le_of_ble_eq_true rfl) dX4_turn_90 ⟨Nat.zero_le _, Nat.zero_le _⟩ (fun r_12 hr_12 => ?_)
        refine lv_iload_n hx hb dX4_turn_93 rfl (lv_at hl 5 rfl) ?_
        refine xa_st hx hb hK hP hD hS 1 rfl (j := (oF t_2 1)) hr_12 (oF_lt (by omega) (by omega)) (by decide) dX4_turn_94 (fun H locs hP hD hS => ?_)
        obtain ⟨f_13, ef_13⟩ : ∃ z : Nat → Int32, z = upd f_11 (oF t_2 1) p2 := ⟨_, rfl⟩
        replace hP : va_P D vwCl [(a0, .inr (3, [.ref a1, .ref a2, .ref a3, .ref a4, .int gg.hs, .ref a5, .ref a6, .ref a7, .int (nI gg.L), .int (nI gg.M), .int mm.pl, .ref a8, .int mm.sd])), (a1, .inl (cI, 49, .inl (upd f_11 (oF t_2 1) p2))), (a2, .inl (cI, 49, .inl mm.m)), (a3, .inl (cI, 49, .inl gg.im)), (a4, .inl (cI, 49, .inl mm.ws)), (a5, .inl (cI, 96, .inl gg.lt)), (a6, .inl (cI, 16, .inl gg.rw)), (a7, .inl (cI, 7, .inl gg.rf)), (a8, .inl (cI, 3, .inl mm.nb))] H := hP
        replace hD : va_D A [(a0, .inr (3, [.ref a1, .ref a2, .ref a3, .ref a4, .int gg.hs, .ref a5, .ref a6, .ref a7, .int (nI gg.L), .int (nI gg.M), .int mm.pl, .ref a8, .int mm.sd])), (a1, .inl (cI, 49, .inl (upd f_11 (oF t_2 1) p2))), (a2, .inl (cI, 49, .inl mm.m)), (a3, .inl (cI, 49, .inl gg.im)), (a4, .inl (cI, 49, .inl mm.ws)), (a5, .inl (cI, 96, .inl gg.lt)), (a6, .inl (cI, 16, .inl gg.rw)), (a7, .inl (cI, 7, .inl gg.rf)), (a8, .inl (cI, 3, .inl mm.nb))] := hD
        rw [← ef_13] at hP hD
        refine lv_iload hx hb dX4_turn_95 (lv_at hl 0 rfl) ?_
        exact hret 97 _ x_9 ((gg.n, f_13, gg.m, gg.im, gg.hs, gg.lt, gg.L, gg.rw, gg.M, gg.rf), mm) _ _ dX4_turn_97 (by first | (simp [sp_turn, rfz, us, c_2, c_4, c_6, hb_2, tn_2, hb_4, tn_4, hv_6, tn_6, hr_5, hr_7, hr_8, ex_9, hr_10, ef_11, hr_12, ef_13]; done) | (simp [sp_turn, rfz, us, c_2, c_4, c_6, hb_2, tn_2, hb_4, tn_4, hv_6, tn_6, hr_5, hr_7, hr_8, ex_9, hr_10, ef_11, hr_12, ef_13, isI]; done) | (simp [sp_turn, rfz, us, c_2, c_4, c_6, hb_2, tn_2, hb_4, tn_4, hv_6, tn_6, hr_5, hr_7, hr_8, ex_9, hr_10, ef_11, hr_12, ef_13, wrB, lackF]; done)) hP hD hS
      have hv_6 : ¬ wrB p2 0 9 = 0 := fun q => c_6 (hr_5.trans q)
      refine lv_aload_n hx hb dX4_turn_40 rfl (lv_at hl 1 rfl) ?_
      refine lv_iload hx hb dX4_turn_41 (lv_at hl 0 rfl) ?_
      refine xw_Vi (As := [.int r_5]) (rest := []) (Wn := fun u => [(a0, .inr (3, [.ref a1, .ref a2, .ref a3, .ref a4, .int gg.hs, .ref a5, .ref a6, .ref a7, .int (nI gg.L), .int (nI gg.M), .int mm.pl, .ref a8, .int mm.sd])), (a1, .inl (cI, 49, .inl gg.r)), (a2, .inl (cI, 49, .inl mm.m)), (a3, .inl (cI, 49, .inl gg.im)), (a4, .inl (cI, 49, .inl mm.ws)), (a5, .inl (cI, 96, .inl gg.lt)), (a6, .inl (cI, 16, .inl gg.rw)), (a7, .inl (cI, 7, .inl (upd gg.rf (cN r_5) (gg.rf (cN r_5) + 1)))), (a8, .inl (cI, 3, .inl mm.nb))]) (Wr := [(a1, .inl (cI, 49, .inl gg.r)), (a2, .inl (cI, 49, .inl mm.m)), (a3, .inl (cI, 49, .inl gg.im)), (a4, .inl (cI, 49, .inl mm.ws)), (a5, .inl (cI, 96, .inl gg.lt)), (a6, .inl (cI, 16, .inl gg.rw)), (a8, .inl (cI, 3, .inl mm.nb))]) ⟨hx, hb, hml, hown, hts⟩ (kX4_no l D cI H.size a0 a1 a2 a3 a4 a5 a6 a7 a8 gg mm r_5 (okc_of hr_5 c_6)) (cwV 1 hts gX4_turn_X4_no rfl rfl rfl hv_X4_no ⟨Nat.le_of_ble_eq_true rfl, Nat.le_of_ble_eq_true rfl⟩) hK hP hD hS hA [0, 7] [1, 2, 3, 4, 5, 6, 8] [7, 0, 1, 2, 3, 4, 5, 8, 6] rfl rfl (by decide) (by decide) (by decide) (by decide) (fun u => rfl) 0 rfl rfl rfl hl.1 rfl (Nat.le_of_ble_eq_true rfl) dX4_turn_43 ⟨Nat.zero_le _, Nat.zero_le _⟩ (fun r_14 u_14 H locs hw_14 hP hD hS => ?_)
      exact hret 46 _ r_14 ((gg.n, gg.r, gg.m, gg.im, gg.hs, gg.lt, gg.L, gg.rw, gg.M, (upd gg.rf (cN r_5) (gg.rf (cN r_5) + 1))), mm) _ _ dX4_turn_46 (by first | (simp [sp_turn, rfz, us, c_2, c_4, c_6, hb_2, tn_2, hb_4, tn_4, hv_6, hw_14, hr_5]; done) | (simp [sp_turn, rfz, us, c_2, c_4, c_6, hb_2, tn_2, hb_4, tn_4, hv_6, hw_14, hr_5, isI]; done) | (simp [sp_turn, rfz, us, c_2, c_4, c_6, hb_2, tn_2, hb_4, tn_4, hv_6, hw_14, hr_5, wrB, lackF]; done)) hP hD hS
    have hb_4 : isI p1 0 5 = false := bool_f (hr_3.trans isI_ite) c_4
    refine lv_bipush (v := (-2)) hx hb dX4_turn_21 (by decide) ?_
    refine lv_goto (tgt := 33) hx hb dX4_turn_23 (by decide) ?_
    refine lv_istore (lv' := [(4, .int (-2)), (0, .ref a0), (1, .int p0), (2, .int p1), (3, .int p2)]) hx hb dX4_turn_33 hl (by decide) rfl (fun ls hl => ?_)
    refine lv_iload hx hb dX4_turn_35 (lv_at hl 0 rfl) ?_
    refine lv_if_eq (tgt := 47) hx hb dX4_turn_37 (by decide) (fun c_15 => ?_) (fun c_15 => ?_)
    · skip
      exact absurd c_15 (by decide)
    refine lv_aload_n hx hb dX4_turn_40 rfl (lv_at hl 1 rfl) ?_
    refine lv_iload hx hb dX4_turn_41 (lv_at hl 0 rfl) ?_
    refine xw_Vi (As := [.int (-2)]) (rest := []) (Wn := fun u => [(a0, .inr (3, [.ref a1, .ref a2, .ref a3, .ref a4, .int gg.hs, .ref a5, .ref a6, .ref a7, .int (nI gg.L), .int (nI gg.M), .int mm.pl, .ref a8, .int mm.sd])), (a1, .inl (cI, 49, .inl gg.r)), (a2, .inl (cI, 49, .inl mm.m)), (a3, .inl (cI, 49, .inl gg.im)), (a4, .inl (cI, 49, .inl mm.ws)), (a5, .inl (cI, 96, .inl gg.lt)), (a6, .inl (cI, 16, .inl gg.rw)), (a7, .inl (cI, 7, .inl (upd gg.rf (cN (-2)) (gg.rf (cN (-2)) + 1)))), (a8, .inl (cI, 3, .inl mm.nb))]) (Wr := [(a1, .inl (cI, 49, .inl gg.r)), (a2, .inl (cI, 49, .inl mm.m)), (a3, .inl (cI, 49, .inl gg.im)), (a4, .inl (cI, 49, .inl mm.ws)), (a5, .inl (cI, 96, .inl gg.lt)), (a6, .inl (cI, 16, .inl gg.rw)), (a8, .inl (cI, 3, .inl mm.nb))]) ⟨hx, hb, hml, hown, hts⟩ (kX4_no l D cI H.size a0 a1 a2 a3 a4 a5 a6 a7 a8 gg mm (-2) okc_2) (cwV 1 hts gX4_turn_X4_no rfl rfl rfl hv_X4_no ⟨Nat.le_of_ble_eq_true rfl, Nat.le_of_ble_eq_true rfl⟩) hK hP hD hS hA [0, 7] [1, 2, 3, 4, 5, 6, 8] [7, 0, 1, 2, 3, 4, 5, 8, 6] rfl rfl (by decide) (by decide) (by decide) (by decide) (fun u => rfl) 0 rfl rfl rfl hl.1 rfl (Nat.le_of_ble_eq_true rfl) dX4_turn_43 ⟨Nat.zero_le _, Nat.zero_le _⟩ (fun r_16 u_16 H locs hw_16 hP hD hS => ?_)
    exact hret 46 _ r_16 ((gg.n, gg.r, gg.m, gg.im, gg.hs, gg.lt, gg.L, gg.rw, gg.M, (upd gg.rf (cN (-2)) (gg.rf (cN (-2)) + 1))), mm) _ _ dX4_turn_46 (by first | (simp [sp_turn, rfz, us, c_2, c_4, hb_2, tn_2, hb_4, hw_16]; done) | (simp [sp_turn, rfz, us, c_2, c_4, hb_2, tn_2, hb_4, hw_16, isI]; done) | (simp [sp_turn, rfz, us, c_2, c_4, hb_2, tn_2, hb_4, hw_16, wrB, lackF]; done)) hP hD hS
  have hb_2 : sayB gg.n p0 = false := bool_f hr_1 c_2
  refine lv_iconst (v := (-1)) hx hb dX4_turn_8 (by decide) ?_
  refine lv_goto (tgt := 33) hx hb dX4_turn_9 (by decide) ?_
  refine lv_istore (lv' := [(4, .int (-1)), (0, .ref a0), (1, .int p0), (2, .int p1), (3, .int p2)]) hx hb dX4_turn_33 hl (by decide) rfl (fun ls hl => ?_)
  refine lv_iload hx hb dX4_turn_35 (lv_at hl 0 rfl) ?_
  refine lv_if_eq (tgt := 47) hx hb dX4_turn_37 (by decide) (fun c_17 => ?_) (fun c_17 => ?_)
  · skip
    exact absurd c_17 (by decide)
  refine lv_aload_n hx hb dX4_turn_40 rfl (lv_at hl 1 rfl) ?_
  refine lv_iload hx hb dX4_turn_41 (lv_at hl 0 rfl) ?_
  refine xw_Vi (As := [.int (-1)]) (rest := []) (Wn := fun u => [(a0, .inr (3, [.ref a1, .ref a2, .ref a3, .ref a4, .int gg.hs, .ref a5, .ref a6, .ref a7, .int (nI gg.L), .int (nI gg.M), .int mm.pl, .ref a8, .int mm.sd])), (a1, .inl (cI, 49, .inl gg.r)), (a2, .inl (cI, 49, .inl mm.m)), (a3, .inl (cI, 49, .inl gg.im)), (a4, .inl (cI, 49, .inl mm.ws)), (a5, .inl (cI, 96, .inl gg.lt)), (a6, .inl (cI, 16, .inl gg.rw)), (a7, .inl (cI, 7, .inl (upd gg.rf (cN (-1)) (gg.rf (cN (-1)) + 1)))), (a8, .inl (cI, 3, .inl mm.nb))]) (Wr := [(a1, .inl (cI, 49, .inl gg.r)), (a2, .inl (cI, 49, .inl mm.m)), (a3, .inl (cI, 49, .inl gg.im)), (a4, .inl (cI, 49, .inl mm.ws)), (a5, .inl (cI, 96, .inl gg.lt)), (a6, .inl (cI, 16, .inl gg.rw)), (a8, .inl (cI, 3, .inl mm.nb))]) ⟨hx, hb, hml, hown, hts⟩ (kX4_no l D cI H.size a0 a1 a2 a3 a4 a5 a6 a7 a8 gg mm (-1) okc_1) (cwV 1 hts gX4_turn_X4_no rfl rfl rfl hv_X4_no ⟨Nat.le_of_ble_eq_true rfl, Nat.le_of_ble_eq_true rfl⟩) hK hP hD hS hA [0, 7] [1, 2, 3, 4, 5, 6, 8] [7, 0, 1, 2, 3, 4, 5, 8, 6] rfl rfl (by decide) (by decide) (by decide) (by decide) (fun u => rfl) 0 rfl rfl rfl hl.1 rfl (Nat.le_of_ble_eq_true rfl) dX4_turn_43 ⟨Nat.zero_le _, Nat.zero_le _⟩ (fun r_18 u_18 H locs hw_18 hP hD hS => ?_)
  exact hret 46 _ r_18 ((gg.n, gg.r, gg.m, gg.im, gg.hs, gg.lt, gg.L, gg.rw, gg.M, (upd gg.rf (cN (-1)) (gg.rf (cN (-1)) + 1))), mm) _ _ dX4_turn_46 (by first | (simp [sp_turn, rfz, us, c_2, hb_2, hw_18]; done) | (simp [sp_turn, rfz, us, c_2, hb_2, hw_18, isI]; done) | (simp [sp_turn, rfz, us, c_2, hb_2, hw_18, wrB, lackF]; done)) hP hD hS

set_option maxHeartbeats 4000000 in
set_option maxRecDepth 100000 in
theorem kX4_boy (l : Launch) (D : va_G) (cI : ClassId) (sz : Nat) (a0 a1 a2 a3 a4 a5 a6 a7 a8 : Nat) (gg : GG) (mm : MS) (hG : Good gg) (p0 : Int32) : Met l yX4_boy wsX4_boy ({ frames := 4, cells := 0, slots := 0, locals := 89 }) (PRW D cI [.ref a0, .int p0] [(a0, .inr (3, [.ref a1, .ref a2, .ref a3, .ref a4, .int gg.hs, .ref a5, .ref a6, .ref a7, .int (nI gg.L), .int (nI gg.M), .int mm.pl, .ref a8, .int mm.sd])), (a1, .inl (cI, 49, .inl gg.r)), (a2, .inl (cI, 49, .inl mm.m)), (a3, .inl (cI, 49, .inl gg.im)), (a4, .inl (cI, 49, .inl mm.ws)), (a5, .inl (cI, 96, .inl gg.lt)), (a6, .inl (cI, 16, .inl gg.rw)), (a7, .inl (cI, 7, .inl gg.rf)), (a8, .inl (cI, 3, .inl mm.nb))] sz) (va_Qi (S := GG × MS) (fun v u => (v, u.1) = sp_boy gg p0) (BRW D [(a0, .inr (3, [.ref a1, .ref a2, .ref a3, .ref a4, .int gg.hs, .ref a5, .ref a6, .ref a7, .int (nI gg.L), .int (nI gg.M), .int mm.pl, .ref a8, .int mm.sd])), (a1, .inl (cI, 49, .inl gg.r)), (a2, .inl (cI, 49, .inl mm.m)), (a3, .inl (cI, 49, .inl gg.im)), (a4, .inl (cI, 49, .inl mm.ws)), (a5, .inl (cI, 96, .inl gg.lt)), (a6, .inl (cI, 16, .inl gg.rw)), (a7, .inl (cI, 7, .inl gg.rf)), (a8, .inl (cI, 3, .inl mm.nb))] sz (fun u => [(a0, .inr (3, [.ref a1, .ref a2, .ref a3, .ref a4, .int u.1.hs, .ref a5, .ref a6, .ref a7, .int (nI u.1.L), .int (nI u.1.M), .int u.2.pl, .ref a8, .int u.2.sd])), (a1, .inl (cI, 49, .inl u.1.r)), (a2, .inl (cI, 49, .inl u.2.m)), (a3, .inl (cI, 49, .inl u.1.im)), (a4, .inl (cI, 49, .inl u.2.ws)), (a5, .inl (cI, 96, .inl u.1.lt)), (a6, .inl (cI, 16, .inl u.1.rw)), (a7, .inl (cI, 7, .inl u.1.rf)), (a8, .inl (cI, 3, .inl u.2.nb))])) (va_A [(a0, .inr (3, [.ref a1, .ref a2, .ref a3, .ref a4, .int gg.hs, .ref a5, .ref a6, .ref a7, .int (nI gg.L), .int (nI gg.M), .int mm.pl, .ref a8, .int mm.sd])), (a1, .inl (cI, 49, .inl gg.r)), (a2, .inl (cI, 49, .inl mm.m)), (a3, .inl (cI, 49, .inl gg.im)), (a4, .inl (cI, 49, .inl mm.ws)), (a5, .inl (cI, 96, .inl gg.lt)), (a6, .inl (cI, 16, .inl gg.rw)), (a7, .inl (cI, 7, .inl gg.rf)), (a8, .inl (cI, 3, .inl mm.nb))] sz)) 0 0 (va_A [(a0, .inr (3, [.ref a1, .ref a2, .ref a3, .ref a4, .int gg.hs, .ref a5, .ref a6, .ref a7, .int (nI gg.L), .int (nI gg.M), .int mm.pl, .ref a8, .int mm.sd])), (a1, .inl (cI, 49, .inl gg.r)), (a2, .inl (cI, 49, .inl mm.m)), (a3, .inl (cI, 49, .inl gg.im)), (a4, .inl (cI, 49, .inl mm.ws)), (a5, .inl (cI, 96, .inl gg.lt)), (a6, .inl (cI, 16, .inl gg.rw)), (a7, .inl (cI, 7, .inl gg.rf)), (a8, .inl (cI, 3, .inl mm.nb))] sz) := by
  refine st_rwi (cc := cX4_boy) (maxL := 3) (rt := .int) (by decide) rfl (Nat.le_of_ble_eq_true rfl) (fun _ _ _ => rfl) ?_
  intro p e s m below meth c Q ls A hx hb hml hts hown hP hK hD hA hS hl hret
  replace hown : s.vm.findClass RX4 = some m.cls := hown
  replace hl : lv_has ls 3 [(0, .ref a0), (1, .int p0)] := hl
  obtain ⟨H, hH⟩ : ∃ z, z = s.heap := ⟨_, rfl⟩
  obtain ⟨locs, hlo⟩ : ∃ z : List Loc, z = [] := ⟨_, rfl⟩
  replace hP : va_P D vwCl [(a0, .inr (3, [.ref a1, .ref a2, .ref a3, .ref a4, .int gg.hs, .ref a5, .ref a6, .ref a7, .int (nI gg.L), .int (nI gg.M), .int mm.pl, .ref a8, .int mm.sd])), (a1, .inl (cI, 49, .inl gg.r)), (a2, .inl (cI, 49, .inl mm.m)), (a3, .inl (cI, 49, .inl gg.im)), (a4, .inl (cI, 49, .inl mm.ws)), (a5, .inl (cI, 96, .inl gg.lt)), (a6, .inl (cI, 16, .inl gg.rw)), (a7, .inl (cI, 7, .inl gg.rf)), (a8, .inl (cI, 3, .inl mm.nb))] H := by rw [hH]; exact hP
  replace hS : va_S A s.heap H locs := by rw [hH, hlo]; exact hS
  show W p l e ({ frames := 4, cells := 0, slots := 0, locals := 89 }) s m [.ref a0, .int p0].toArray below meth c s.heap [] 0 0 Q (F0 m 0 ls [])
  rw [← hlo]
  suffices hgo : W p l e ({ frames := 4, cells := 0, slots := 0, locals := 89 }) s m [.ref a0, .int p0].toArray below meth c H locs 0 0 Q (F0 m 0 ls []) by rw [hH] at hgo; exact hgo
  clear hH hlo
  have hi_X4 : ∀ w ∈ wsX40, w ∈ wsX4_boy := fun w h => List.mem_cons_of_mem _ (List.mem_append_right _ (h))
  have hk_9 := hts (.fieldLink RX4 9 "NestsOfTalkModel" "s" "[I") (List.mem_of_getElem? (i := 1) rfl)
  have hI := hG.inv
  have hn9 := hI.le
  have hL96 := hG.L96
  have hM16 := hG.M16
  refine lv_iload_n hx hb dX4_boy_0 rfl (lv_at hl 1 rfl) ?_
  refine xc_Si (As := [.int p0]) (rest := []) ⟨hx, hb, hml, hown, hts⟩ (kX4_isWoman l D cI p0) (va_cwS 1 hts gX4_boy_X4_isWoman rfl rfl rfl hs_X4_isWoman ⟨Nat.le_of_ble_eq_true rfl, Nat.le_of_ble_eq_true rfl⟩) hK hP [] rfl rfl hl.1 rfl (Nat.le_of_ble_eq_true rfl) dX4_boy_1 ⟨Nat.zero_le _, Nat.zero_le _⟩ (fun r_1 hr_1 => ?_)
  refine lv_if_ne (tgt := 13) hx hb dX4_boy_4 (by decide) (fun c_2 => ?_) (fun c_2 => ?_)
  · skip
    have hb_2 : womB p0 = true := bool_t hr_1 c_2
    obtain ⟨w_2, hw_2, ew_2⟩ := womB_iff.1 hb_2
    refine lv_aload_n hx hb dX4_boy_13 rfl (lv_at hl 0 rfl) ?_
    refine va_get (D := D) (ci := 3) (v := .ref a1) (C := RX4) (T := TX4) (N := 13) hx hb hts hi_X4 hown hK.1 hP 0 rfl rfl 0 (by decide) hk_9 (fun _ h9 => h9) rfl dX4_boy_14 ?_
    refine lv_iload_n hx hb dX4_boy_17 rfl (lv_at hl 1 rfl) ?_
    refine xc_Si (As := [.ref a1, .int p0]) (rest := []) ⟨hx, hb, hml, hown, hts⟩ (kX4_nestIn l D cI a1 gg.r gg.n hI p0) (va_cwS 2 hts gX4_boy_X4_nestIn rfl rfl rfl hs_X4_nestIn ⟨Nat.le_of_ble_eq_true rfl, Nat.le_of_ble_eq_true rfl⟩) hK hP [1] rfl rfl hl.1 rfl (Nat.le_of_ble_eq_true rfl) dX4_boy_18 ⟨Nat.zero_le _, Nat.zero_le _⟩ (fun r_3 hr_3 => ?_)
    refine xc_Si (As := [.int r_3]) (rest := []) ⟨hx, hb, hml, hown, hts⟩ (kX4_bits l D cI r_3) (va_cwS 1 hts gX4_boy_X4_bits rfl rfl rfl hs_X4_bits ⟨Nat.le_of_ble_eq_true rfl, Nat.le_of_ble_eq_true rfl⟩) hK hP [] rfl rfl hl.1 rfl (Nat.le_of_ble_eq_true rfl) dX4_boy_21 ⟨Nat.zero_le _, Nat.zero_le _⟩ (fun r_4 hr_4 => ?_)
    have hcl_4 := cntN_le r_3 10
    rw [hr_3] at hr_4
    have hcl_4 := cntN_le (nst gg.r gg.n p0) 10
    refine lv_istore_n (lv' := [(2, .int r_4), (0, .ref a0), (1, .int p0)]) hx hb dX4_boy_24 rfl hl (by decide) rfl (fun ls hl => ?_)
    refine lv_iload_n hx hb dX4_boy_25 rfl (lv_at hl 0 rfl) ?_
    refine lv_if_ne (tgt := 36) hx hb dX4_boy_26 (by decide) (fun c_5 => ?_) (fun c_5 => ?_)
    · skip
      have n_5 : ¬ (cntN (nst gg.r gg.n p0) 10) = 0 := fun q => c_5 ((ni_eq (a := (cntN (nst gg.r gg.n p0) 10)) (b := 0) hr_4 (rfl : (0 : Int32) = nI 0) (by omega) (by decide)).mpr q)
      refine lv_aload_n hx hb dX4_boy_36 rfl (lv_at hl 1 rfl) ?_
      refine va_get (D := D) (ci := 3) (v := .ref a1) (C := RX4) (T := TX4) (N := 13) hx hb hts hi_X4 hown hK.1 hP 0 rfl rfl 0 (by decide) hk_9 (fun _ h9 => h9) rfl dX4_boy_37 ?_
      refine lv_iload_n hx hb dX4_boy_40 rfl (lv_at hl 2 rfl) ?_
      refine xw_Sv (As := [.ref a1, .int p0]) (rest := []) (Wn := fun u => [(a0, .inr (3, [.ref a1, .ref a2, .ref a3, .ref a4, .int gg.hs, .ref a5, .ref a6, .ref a7, .int (nI gg.L), .int (nI gg.M), .int mm.pl, .ref a8, .int mm.sd])), (a1, .inl (cI, 49, .inl u)), (a2, .inl (cI, 49, .inl mm.m)), (a3, .inl (cI, 49, .inl gg.im)), (a4, .inl (cI, 49, .inl mm.ws)), (a5, .inl (cI, 96, .inl gg.lt)), (a6, .inl (cI, 16, .inl gg.rw)), (a7, .inl (cI, 7, .inl gg.rf)), (a8, .inl (cI, 3, .inl mm.nb))]) (Wr := [(a0, .inr (3, [.ref a1, .ref a2, .ref a3, .ref a4, .int gg.hs, .ref a5, .ref a6, .ref a7, .int (nI gg.L), .int (nI gg.M), .int mm.pl, .ref a8, .int mm.sd])), (a2, .inl (cI, 49, .inl mm.m)), (a3, .inl (cI, 49, .inl gg.im)), (a4, .inl (cI, 49, .inl mm.ws)), (a5, .inl (cI, 96, .inl gg.lt)), (a6, .inl (cI, 16, .inl gg.rw)), (a7, .inl (cI, 7, .inl gg.rf)), (a8, .inl (cI, 3, .inl mm.nb))]) ⟨hx, hb, hml, hown, hts⟩ (kX4_fallsIn l D cI H.size a1 gg.r gg.n hI p0) (va_cwS 2 hts gX4_boy_X4_fallsIn rfl rfl rfl hs_X4_fallsIn ⟨Nat.le_of_ble_eq_true rfl, Nat.le_of_ble_eq_true rfl⟩) hK hP hD hS hA [1] [0, 2, 3, 4, 5, 6, 7, 8] [0, 8, 1, 2, 3, 4, 5, 6, 7] rfl rfl (by decide) (by decide) (by decide) (by decide) (fun u => rfl) rfl hl.1 rfl (Nat.le_of_ble_eq_true rfl) dX4_boy_41 ⟨Nat.zero_le _, Nat.zero_le _⟩ (fun u_6 H locs hw_6 hP hD hS => ?_)
      have hI_u_6 : Inv gg.n u_6 := (by rw [hw_6]; exact hI.ifall _)
      refine lv_iload_n hx hb dX4_boy_44 rfl (lv_at hl 0 rfl) ?_
      exact hret 45 _ r_4 ((gg.n, u_6, gg.m, gg.im, gg.hs, gg.lt, gg.L, gg.rw, gg.M, gg.rf), mm) _ _ dX4_boy_45 (by first | (simp [sp_boy, (cnt_nst hn9 p0).symm, rfz, us, c_2, c_5, hb_2, n_5, hr_3, hr_4, hw_6]; done) | (simp [sp_boy, (cnt_nst hn9 p0).symm, rfz, us, c_2, c_5, hb_2, n_5, hr_3, hr_4, hw_6, isI]; done) | (simp [sp_boy, (cnt_nst hn9 p0).symm, rfz, us, c_2, c_5, hb_2, n_5, hr_3, hr_4, hw_6, wrB, lackF]; done)) hP hD hS
    have n_5 : (cntN (nst gg.r gg.n p0) 10) = 0 := (ni_eq (a := (cntN (nst gg.r gg.n p0) 10)) (b := 0) hr_4 (rfl : (0 : Int32) = nI 0) (by omega) (by decide)).mp c_5
    refine lv_aload_n hx hb dX4_boy_29 rfl (lv_at hl 1 rfl) ?_
    refine lv_bipush (v := (-3)) hx hb dX4_boy_30 (by decide) ?_
    refine xw_Vi (As := [.int (-3)]) (rest := []) (Wn := fun u => [(a0, .inr (3, [.ref a1, .ref a2, .ref a3, .ref a4, .int gg.hs, .ref a5, .ref a6, .ref a7, .int (nI gg.L), .int (nI gg.M), .int mm.pl, .ref a8, .int mm.sd])), (a1, .inl (cI, 49, .inl gg.r)), (a2, .inl (cI, 49, .inl mm.m)), (a3, .inl (cI, 49, .inl gg.im)), (a4, .inl (cI, 49, .inl mm.ws)), (a5, .inl (cI, 96, .inl gg.lt)), (a6, .inl (cI, 16, .inl gg.rw)), (a7, .inl (cI, 7, .inl (upd gg.rf (cN (-3)) (gg.rf (cN (-3)) + 1)))), (a8, .inl (cI, 3, .inl mm.nb))]) (Wr := [(a1, .inl (cI, 49, .inl gg.r)), (a2, .inl (cI, 49, .inl mm.m)), (a3, .inl (cI, 49, .inl gg.im)), (a4, .inl (cI, 49, .inl mm.ws)), (a5, .inl (cI, 96, .inl gg.lt)), (a6, .inl (cI, 16, .inl gg.rw)), (a8, .inl (cI, 3, .inl mm.nb))]) ⟨hx, hb, hml, hown, hts⟩ (kX4_no l D cI H.size a0 a1 a2 a3 a4 a5 a6 a7 a8 gg mm (-3) okc_3) (cwV 1 hts gX4_boy_X4_no rfl rfl rfl hv_X4_no ⟨Nat.le_of_ble_eq_true rfl, Nat.le_of_ble_eq_true rfl⟩) hK hP hD hS hA [0, 7] [1, 2, 3, 4, 5, 6, 8] [7, 0, 1, 2, 3, 4, 5, 8, 6] rfl rfl (by decide) (by decide) (by decide) (by decide) (fun u => rfl) 0 rfl rfl rfl hl.1 rfl (Nat.le_of_ble_eq_true rfl) dX4_boy_32 ⟨Nat.zero_le _, Nat.zero_le _⟩ (fun r_7 u_7 H locs hw_7 hP hD hS => ?_)
    exact hret 35 _ r_7 ((gg.n, gg.r, gg.m, gg.im, gg.hs, gg.lt, gg.L, gg.rw, gg.M, (upd gg.rf (cN (-3)) (gg.rf (cN (-3)) + 1))), mm) _ _ dX4_boy_35 (by first | (simp [sp_boy, (cnt_nst hn9 p0).symm, rfz, us, c_2, c_5, hb_2, n_5, hw_7, hr_3, hr_4]; done) | (simp [sp_boy, (cnt_nst hn9 p0).symm, rfz, us, c_2, c_5, hb_2, n_5, hw_7, hr_3, hr_4, isI]; done) | (simp [sp_boy, (cnt_nst hn9 p0).symm, rfz, us, c_2, c_5, hb_2, n_5, hw_7, hr_3, hr_4, wrB, lackF]; done)) hP hD hS
  have hb_2 : womB p0 = false := bool_f hr_1 c_2
  refine lv_aload_n hx hb dX4_boy_7 rfl (lv_at hl 0 rfl) ?_
  refine lv_iconst (v := (-1)) hx hb dX4_boy_8 (by decide) ?_
  refine xw_Vi (As := [.int (-1)]) (rest := []) (Wn := fun u => [(a0, .inr (3, [.ref a1, .ref a2, .ref a3, .ref a4, .int gg.hs, .ref a5, .ref a6, .ref a7, .int (nI gg.L), .int (nI gg.M), .int mm.pl, .ref a8, .int mm.sd])), (a1, .inl (cI, 49, .inl gg.r)), (a2, .inl (cI, 49, .inl mm.m)), (a3, .inl (cI, 49, .inl gg.im)), (a4, .inl (cI, 49, .inl mm.ws)), (a5, .inl (cI, 96, .inl gg.lt)), (a6, .inl (cI, 16, .inl gg.rw)), (a7, .inl (cI, 7, .inl (upd gg.rf (cN (-1)) (gg.rf (cN (-1)) + 1)))), (a8, .inl (cI, 3, .inl mm.nb))]) (Wr := [(a1, .inl (cI, 49, .inl gg.r)), (a2, .inl (cI, 49, .inl mm.m)), (a3, .inl (cI, 49, .inl gg.im)), (a4, .inl (cI, 49, .inl mm.ws)), (a5, .inl (cI, 96, .inl gg.lt)), (a6, .inl (cI, 16, .inl gg.rw)), (a8, .inl (cI, 3, .inl mm.nb))]) ⟨hx, hb, hml, hown, hts⟩ (kX4_no l D cI H.size a0 a1 a2 a3 a4 a5 a6 a7 a8 gg mm (-1) okc_1) (cwV 1 hts gX4_boy_X4_no rfl rfl rfl hv_X4_no ⟨Nat.le_of_ble_eq_true rfl, Nat.le_of_ble_eq_true rfl⟩) hK hP hD hS hA [0, 7] [1, 2, 3, 4, 5, 6, 8] [7, 0, 1, 2, 3, 4, 5, 8, 6] rfl rfl (by decide) (by decide) (by decide) (by decide) (fun u => rfl) 0 rfl rfl rfl hl.1 rfl (Nat.le_of_ble_eq_true rfl) dX4_boy_9 ⟨Nat.zero_le _, Nat.zero_le _⟩ (fun r_8 u_8 H locs hw_8 hP hD hS => ?_)
  exact hret 12 _ r_8 ((gg.n, gg.r, gg.m, gg.im, gg.hs, gg.lt, gg.L, gg.rw, gg.M, (upd gg.rf (cN (-1)) (gg.rf (cN (-1)) + 1))), mm) _ _ dX4_boy_12 (by first | (simp [sp_boy, (cnt_nst hn9 p0).symm, rfz, us, c_2, hb_2, hw_8]; done) | (simp [sp_boy, (cnt_nst hn9 p0).symm, rfz, us, c_2, hb_2, hw_8, isI]; done) | (simp [sp_boy, (cnt_nst hn9 p0).symm, rfz, us, c_2, hb_2, hw_8, wrB, lackF]; done)) hP hD hS

set_option maxHeartbeats 4000000 in
set_option maxRecDepth 100000 in
theorem kX4_days (l : Launch) (D : va_G) (cI : ClassId) (sz : Nat) (a0 a1 a2 a3 a4 a5 a6 a7 a8 : Nat) (gg : GG) (mm : MS) (hG : Good gg) (p0 : Int32) : Met l yX4_days wsX4_days ({ frames := 7, cells := 0, slots := 0, locals := 155 }) (PRW D cI [.ref a0, .int p0] [(a0, .inr (3, [.ref a1, .ref a2, .ref a3, .ref a4, .int gg.hs, .ref a5, .ref a6, .ref a7, .int (nI gg.L), .int (nI gg.M), .int mm.pl, .ref a8, .int mm.sd])), (a1, .inl (cI, 49, .inl gg.r)), (a2, .inl (cI, 49, .inl mm.m)), (a3, .inl (cI, 49, .inl gg.im)), (a4, .inl (cI, 49, .inl mm.ws)), (a5, .inl (cI, 96, .inl gg.lt)), (a6, .inl (cI, 16, .inl gg.rw)), (a7, .inl (cI, 7, .inl gg.rf)), (a8, .inl (cI, 3, .inl mm.nb))] sz) (va_Qi (S := GG × MS) (fun v u => (v, u.1) = sp_days gg p0) (BRW D [(a0, .inr (3, [.ref a1, .ref a2, .ref a3, .ref a4, .int gg.hs, .ref a5, .ref a6, .ref a7, .int (nI gg.L), .int (nI gg.M), .int mm.pl, .ref a8, .int mm.sd])), (a1, .inl (cI, 49, .inl gg.r)), (a2, .inl (cI, 49, .inl mm.m)), (a3, .inl (cI, 49, .inl gg.im)), (a4, .inl (cI, 49, .inl mm.ws)), (a5, .inl (cI, 96, .inl gg.lt)), (a6, .inl (cI, 16, .inl gg.rw)), (a7, .inl (cI, 7, .inl gg.rf)), (a8, .inl (cI, 3, .inl mm.nb))] sz (fun u => [(a0, .inr (3, [.ref a1, .ref a2, .ref a3, .ref a4, .int u.1.hs, .ref a5, .ref a6, .ref a7, .int (nI u.1.L), .int (nI u.1.M), .int u.2.pl, .ref a8, .int u.2.sd])), (a1, .inl (cI, 49, .inl u.1.r)), (a2, .inl (cI, 49, .inl u.2.m)), (a3, .inl (cI, 49, .inl u.1.im)), (a4, .inl (cI, 49, .inl u.2.ws)), (a5, .inl (cI, 96, .inl u.1.lt)), (a6, .inl (cI, 16, .inl u.1.rw)), (a7, .inl (cI, 7, .inl u.1.rf)), (a8, .inl (cI, 3, .inl u.2.nb))])) (va_A [(a0, .inr (3, [.ref a1, .ref a2, .ref a3, .ref a4, .int gg.hs, .ref a5, .ref a6, .ref a7, .int (nI gg.L), .int (nI gg.M), .int mm.pl, .ref a8, .int mm.sd])), (a1, .inl (cI, 49, .inl gg.r)), (a2, .inl (cI, 49, .inl mm.m)), (a3, .inl (cI, 49, .inl gg.im)), (a4, .inl (cI, 49, .inl mm.ws)), (a5, .inl (cI, 96, .inl gg.lt)), (a6, .inl (cI, 16, .inl gg.rw)), (a7, .inl (cI, 7, .inl gg.rf)), (a8, .inl (cI, 3, .inl mm.nb))] sz)) 0 0 (va_A [(a0, .inr (3, [.ref a1, .ref a2, .ref a3, .ref a4, .int gg.hs, .ref a5, .ref a6, .ref a7, .int (nI gg.L), .int (nI gg.M), .int mm.pl, .ref a8, .int mm.sd])), (a1, .inl (cI, 49, .inl gg.r)), (a2, .inl (cI, 49, .inl mm.m)), (a3, .inl (cI, 49, .inl gg.im)), (a4, .inl (cI, 49, .inl mm.ws)), (a5, .inl (cI, 96, .inl gg.lt)), (a6, .inl (cI, 16, .inl gg.rw)), (a7, .inl (cI, 7, .inl gg.rf)), (a8, .inl (cI, 3, .inl mm.nb))] sz) := by
  refine st_rwi (cc := cX4_days) (maxL := 3) (rt := .int) (by decide) rfl (Nat.le_of_ble_eq_true rfl) (fun _ _ _ => rfl) ?_
  intro p e s m below meth c Q ls A hx hb hml hts hown hP hK hD hA hS hl hret
  replace hown : s.vm.findClass RX4 = some m.cls := hown
  replace hl : lv_has ls 3 [(0, .ref a0), (1, .int p0)] := hl
  obtain ⟨H, hH⟩ : ∃ z, z = s.heap := ⟨_, rfl⟩
  obtain ⟨locs, hlo⟩ : ∃ z : List Loc, z = [] := ⟨_, rfl⟩
  replace hP : va_P D vwCl [(a0, .inr (3, [.ref a1, .ref a2, .ref a3, .ref a4, .int gg.hs, .ref a5, .ref a6, .ref a7, .int (nI gg.L), .int (nI gg.M), .int mm.pl, .ref a8, .int mm.sd])), (a1, .inl (cI, 49, .inl gg.r)), (a2, .inl (cI, 49, .inl mm.m)), (a3, .inl (cI, 49, .inl gg.im)), (a4, .inl (cI, 49, .inl mm.ws)), (a5, .inl (cI, 96, .inl gg.lt)), (a6, .inl (cI, 16, .inl gg.rw)), (a7, .inl (cI, 7, .inl gg.rf)), (a8, .inl (cI, 3, .inl mm.nb))] H := by rw [hH]; exact hP
  replace hS : va_S A s.heap H locs := by rw [hH, hlo]; exact hS
  show W p l e ({ frames := 7, cells := 0, slots := 0, locals := 155 }) s m [.ref a0, .int p0].toArray below meth c s.heap [] 0 0 Q (F0 m 0 ls [])
  rw [← hlo]
  suffices hgo : W p l e ({ frames := 7, cells := 0, slots := 0, locals := 155 }) s m [.ref a0, .int p0].toArray below meth c H locs 0 0 Q (F0 m 0 ls []) by rw [hH] at hgo; exact hgo
  clear hH hlo
  have hi_X4 : ∀ w ∈ wsX40, w ∈ wsX4_days := fun w h => List.mem_cons_of_mem _ (List.mem_append_right _ (h))
  have hk_9 := hts (.fieldLink RX4 9 "NestsOfTalkModel" "s" "[I") (List.mem_of_getElem? (i := 1) rfl)
  have hI := hG.inv
  have hn9 := hI.le
  have hL96 := hG.L96
  have hM16 := hG.M16
  refine lv_iload_n hx hb dX4_days_0 rfl (lv_at hl 1 rfl) ?_
  refine lv_iconst (v := 1) hx hb dX4_days_1 (by decide) ?_
  refine lv_icmp_ge (tgt := 12) hx hb dX4_days_2 (by decide) (fun c_1 => ?_) (fun c_1 => ?_)
  · skip
    have d_1 : ¬ p0 < 1 := Int32.not_lt.2 c_1
    refine lv_iload_n hx hb dX4_days_12 rfl (lv_at hl 1 rfl) ?_
    refine lv_bipush (v := 60) hx hb dX4_days_13 (by decide) ?_
    refine lv_icmp_gt (tgt := 32) hx hb dX4_days_15 (by decide) (fun c_2 => ?_) (fun c_2 => ?_)
    · skip
      have d_2 : ¬ p0 ≤ 60 := Int32.not_le.2 c_2
      refine lv_aload_n hx hb dX4_days_32 rfl (lv_at hl 0 rfl) ?_
      refine lv_bipush (v := (-6)) hx hb dX4_days_33 (by decide) ?_
      refine xw_Vi (As := [.int (-6)]) (rest := []) (Wn := fun u => [(a0, .inr (3, [.ref a1, .ref a2, .ref a3, .ref a4, .int gg.hs, .ref a5, .ref a6, .ref a7, .int (nI gg.L), .int (nI gg.M), .int mm.pl, .ref a8, .int mm.sd])), (a1, .inl (cI, 49, .inl gg.r)), (a2, .inl (cI, 49, .inl mm.m)), (a3, .inl (cI, 49, .inl gg.im)), (a4, .inl (cI, 49, .inl mm.ws)), (a5, .inl (cI, 96, .inl gg.lt)), (a6, .inl (cI, 16, .inl gg.rw)), (a7, .inl (cI, 7, .inl (upd gg.rf (cN (-6)) (gg.rf (cN (-6)) + 1)))), (a8, .inl (cI, 3, .inl mm.nb))]) (Wr := [(a1, .inl (cI, 49, .inl gg.r)), (a2, .inl (cI, 49, .inl mm.m)), (a3, .inl (cI, 49, .inl gg.im)), (a4, .inl (cI, 49, .inl mm.ws)), (a5, .inl (cI, 96, .inl gg.lt)), (a6, .inl (cI, 16, .inl gg.rw)), (a8, .inl (cI, 3, .inl mm.nb))]) ⟨hx, hb, hml, hown, hts⟩ (kX4_no l D cI H.size a0 a1 a2 a3 a4 a5 a6 a7 a8 gg mm (-6) okc_6) (cwV 1 hts gX4_days_X4_no rfl rfl rfl hv_X4_no ⟨Nat.le_of_ble_eq_true rfl, Nat.le_of_ble_eq_true rfl⟩) hK hP hD hS hA [0, 7] [1, 2, 3, 4, 5, 6, 8] [7, 0, 1, 2, 3, 4, 5, 8, 6] rfl rfl (by decide) (by decide) (by decide) (by decide) (fun u => rfl) 0 rfl rfl rfl hl.1 rfl (Nat.le_of_ble_eq_true rfl) dX4_days_35 ⟨Nat.zero_le _, Nat.zero_le _⟩ (fun r_3 u_3 H locs hw_3 hP hD hS => ?_)
      exact hret 38 _ r_3 ((gg.n, gg.r, gg.m, gg.im, gg.hs, gg.lt, gg.L, gg.rw, gg.M, (upd gg.rf (cN (-6)) (gg.rf (cN (-6)) + 1))), mm) _ _ dX4_days_38 (by first | (simp [sp_days, rfz, us, c_1, c_2, hw_3]; done) | (simp [sp_days, rfz, us, c_1, c_2, hw_3, isI]; done) | (simp [sp_days, rfz, us, c_1, c_2, hw_3, wrB, lackF]; done)) hP hD hS
    have d_2 : p0 ≤ 60 := Int32.not_lt.1 c_2
    refine lv_aload_n hx hb dX4_days_18 rfl (lv_at hl 0 rfl) ?_
    refine va_get (D := D) (ci := 3) (v := .ref a1) (C := RX4) (T := TX4) (N := 13) hx hb hts hi_X4 hown hK.1 hP 0 rfl rfl 0 (by decide) hk_9 (fun _ h9 => h9) rfl dX4_days_19 ?_
    refine lv_iconst (v := 1) hx hb dX4_days_22 (by decide) ?_
    refine xa_ld hx hb hK hP 1 rfl (j := 1) (rfl : (1 : Int32) = nI 1) (by omega) (by decide) dX4_days_23 ?_
    refine lv_iload_n hx hb dX4_days_24 rfl (lv_at hl 1 rfl) ?_
    refine lv_iadd hx hb dX4_days_25 ?_
    refine lv_sipush (v := 999) hx hb dX4_days_26 (by decide) ?_
    refine lv_icmp_le (tgt := 39) hx hb dX4_days_29 (by decide) (fun c_4 => ?_) (fun c_4 => ?_)
    · skip
      have d_4 : ¬ 999 < ((gg.r 1) + p0) := Int32.not_lt.2 c_4
      obtain ⟨kd, hk1, hk2, hkd⟩ := day_nat c_1 c_2
      have tn_d : tN p0 = kd := by rw [hkd]; exact tN_nI (by omega)
      refine lv_aload_n hx hb dX4_days_39 rfl (lv_at hl 0 rfl) ?_
      refine va_get (D := D) (ci := 3) (v := .ref a1) (C := RX4) (T := TX4) (N := 13) hx hb hts hi_X4 hown hK.1 hP 0 rfl rfl 0 (by decide) hk_9 (fun _ h9 => h9) rfl dX4_days_40 ?_
      refine lv_iload_n hx hb dX4_days_43 rfl (lv_at hl 1 rfl) ?_
      refine xw_Si (As := [.ref a1, .int p0]) (rest := []) (Wn := fun u => [(a0, .inr (3, [.ref a1, .ref a2, .ref a3, .ref a4, .int gg.hs, .ref a5, .ref a6, .ref a7, .int (nI gg.L), .int (nI gg.M), .int mm.pl, .ref a8, .int mm.sd])), (a1, .inl (cI, 49, .inl u)), (a2, .inl (cI, 49, .inl mm.m)), (a3, .inl (cI, 49, .inl gg.im)), (a4, .inl (cI, 49, .inl mm.ws)), (a5, .inl (cI, 96, .inl gg.lt)), (a6, .inl (cI, 16, .inl gg.rw)), (a7, .inl (cI, 7, .inl gg.rf)), (a8, .inl (cI, 3, .inl mm.nb))]) (Wr := [(a0, .inr (3, [.ref a1, .ref a2, .ref a3, .ref a4, .int gg.hs, .ref a5, .ref a6, .ref a7, .int (nI gg.L), .int (nI gg.M), .int mm.pl, .ref a8, .int mm.sd])), (a2, .inl (cI, 49, .inl mm.m)), (a3, .inl (cI, 49, .inl gg.im)), (a4, .inl (cI, 49, .inl mm.ws)), (a5, .inl (cI, 96, .inl gg.lt)), (a6, .inl (cI, 16, .inl gg.rw)), (a7, .inl (cI, 7, .inl gg.rf)), (a8, .inl (cI, 3, .inl mm.nb))]) ⟨hx, hb, hml, hown, hts⟩ (kX4_daysOn l D cI H.size a1 gg.r gg.n hI p0 kd hkd (by omega)) (va_cwS 2 hts gX4_days_X4_daysOn rfl rfl rfl hs_X4_daysOn ⟨Nat.le_of_ble_eq_true rfl, Nat.le_of_ble_eq_true rfl⟩) hK hP hD hS hA [1] [0, 2, 3, 4, 5, 6, 7, 8] [0, 8, 1, 2, 3, 4, 5, 6, 7] rfl rfl (by decide) (by decide) (by decide) (by decide) (fun u => rfl) rfl hl.1 rfl (Nat.le_of_ble_eq_true rfl) dX4_days_44 ⟨Nat.zero_le _, Nat.zero_le _⟩ (fun r_5 u_5 H locs hw_5 hP hD hS => ?_)
      obtain ⟨hr_5, hu_5⟩ := hw_5
      have hI_u_5 : Inv gg.n u_5 := (by rw [hu_5]; exact hI.idsR _)
      refine lv_istore_n (lv' := [(2, .int r_5), (0, .ref a0), (1, .int p0)]) hx hb dX4_days_47 rfl hl (by decide) rfl (fun ls hl => ?_)
      refine lv_aload_n hx hb dX4_days_48 rfl (lv_at hl 1 rfl) ?_
      refine va_get (D := D) (ci := 3) (v := .ref a1) (C := RX4) (T := TX4) (N := 13) hx hb hts hi_X4 hown hK.1 hP 0 rfl rfl 0 (by decide) hk_9 (fun _ h9 => h9) rfl dX4_days_49 ?_
      refine lv_iconst (v := 2) hx hb dX4_days_52 (by decide) ?_
      refine xa_ld hx hb hK hP 1 rfl (j := 2) (rfl : (2 : Int32) = nI 2) (by omega) (by decide) dX4_days_53 ?_
      exact hret 54 _ (u_5 2) ((gg.n, u_5, gg.m, gg.im, gg.hs, gg.lt, gg.L, gg.rw, gg.M, gg.rf), mm) _ _ dX4_days_54 (by first | (simp [sp_days, rfz, us, c_1, c_2, c_4, tn_d, hu_5, hr_5]; done) | (simp [sp_days, rfz, us, c_1, c_2, c_4, tn_d, hu_5, hr_5, isI]; done) | (simp [sp_days, rfz, us, c_1, c_2, c_4, tn_d, hu_5, hr_5, wrB, lackF]; done)) hP hD hS
    have d_4 : 999 < ((gg.r 1) + p0) := Int32.not_le.1 c_4
    refine lv_aload_n hx hb dX4_days_32 rfl (lv_at hl 0 rfl) ?_
    refine lv_bipush (v := (-6)) hx hb dX4_days_33 (by decide) ?_
    refine xw_Vi (As := [.int (-6)]) (rest := []) (Wn := fun u => [(a0, .inr (3, [.ref a1, .ref a2, .ref a3, .ref a4, .int gg.hs, .ref a5, .ref a6, .ref a7, .int (nI gg.L), .int (nI gg.M), .int mm.pl, .ref a8, .int mm.sd])), (a1, .inl (cI, 49, .inl gg.r)), (a2, .inl (cI, 49, .inl mm.m)), (a3, .inl (cI, 49, .inl gg.im)), (a4, .inl (cI, 49, .inl mm.ws)), (a5, .inl (cI, 96, .inl gg.lt)), (a6, .inl (cI, 16, .inl gg.rw)), (a7, .inl (cI, 7, .inl (upd gg.rf (cN (-6)) (gg.rf (cN (-6)) + 1)))), (a8, .inl (cI, 3, .inl mm.nb))]) (Wr := [(a1, .inl (cI, 49, .inl gg.r)), (a2, .inl (cI, 49, .inl mm.m)), (a3, .inl (cI, 49, .inl gg.im)), (a4, .inl (cI, 49, .inl mm.ws)), (a5, .inl (cI, 96, .inl gg.lt)), (a6, .inl (cI, 16, .inl gg.rw)), (a8, .inl (cI, 3, .inl mm.nb))]) ⟨hx, hb, hml, hown, hts⟩ (kX4_no l D cI H.size a0 a1 a2 a3 a4 a5 a6 a7 a8 gg mm (-6) okc_6) (cwV 1 hts gX4_days_X4_no rfl rfl rfl hv_X4_no ⟨Nat.le_of_ble_eq_true rfl, Nat.le_of_ble_eq_true rfl⟩) hK hP hD hS hA [0, 7] [1, 2, 3, 4, 5, 6, 8] [7, 0, 1, 2, 3, 4, 5, 8, 6] rfl rfl (by decide) (by decide) (by decide) (by decide) (fun u => rfl) 0 rfl rfl rfl hl.1 rfl (Nat.le_of_ble_eq_true rfl) dX4_days_35 ⟨Nat.zero_le _, Nat.zero_le _⟩ (fun r_6 u_6 H locs hw_6 hP hD hS => ?_)
    exact hret 38 _ r_6 ((gg.n, gg.r, gg.m, gg.im, gg.hs, gg.lt, gg.L, gg.rw, gg.M, (upd gg.rf (cN (-6)) (gg.rf (cN (-6)) + 1))), mm) _ _ dX4_days_38 (by first | (simp [sp_days, rfz, us, c_1, c_2, c_4, hw_6]; done) | (simp [sp_days, rfz, us, c_1, c_2, c_4, hw_6, isI]; done) | (simp [sp_days, rfz, us, c_1, c_2, c_4, hw_6, wrB, lackF]; done)) hP hD hS
  have d_1 : p0 < 1 := Int32.not_le.1 c_1
  refine lv_aload_n hx hb dX4_days_5 rfl (lv_at hl 0 rfl) ?_
  refine lv_bipush (v := (-4)) hx hb dX4_days_6 (by decide) ?_
  refine xw_Vi (As := [.int (-4)]) (rest := []) (Wn := fun u => [(a0, .inr (3, [.ref a1, .ref a2, .ref a3, .ref a4, .int gg.hs, .ref a5, .ref a6, .ref a7, .int (nI gg.L), .int (nI gg.M), .int mm.pl, .ref a8, .int mm.sd])), (a1, .inl (cI, 49, .inl gg.r)), (a2, .inl (cI, 49, .inl mm.m)), (a3, .inl (cI, 49, .inl gg.im)), (a4, .inl (cI, 49, .inl mm.ws)), (a5, .inl (cI, 96, .inl gg.lt)), (a6, .inl (cI, 16, .inl gg.rw)), (a7, .inl (cI, 7, .inl (upd gg.rf (cN (-4)) (gg.rf (cN (-4)) + 1)))), (a8, .inl (cI, 3, .inl mm.nb))]) (Wr := [(a1, .inl (cI, 49, .inl gg.r)), (a2, .inl (cI, 49, .inl mm.m)), (a3, .inl (cI, 49, .inl gg.im)), (a4, .inl (cI, 49, .inl mm.ws)), (a5, .inl (cI, 96, .inl gg.lt)), (a6, .inl (cI, 16, .inl gg.rw)), (a8, .inl (cI, 3, .inl mm.nb))]) ⟨hx, hb, hml, hown, hts⟩ (kX4_no l D cI H.size a0 a1 a2 a3 a4 a5 a6 a7 a8 gg mm (-4) okc_4) (cwV 1 hts gX4_days_X4_no rfl rfl rfl hv_X4_no ⟨Nat.le_of_ble_eq_true rfl, Nat.le_of_ble_eq_true rfl⟩) hK hP hD hS hA [0, 7] [1, 2, 3, 4, 5, 6, 8] [7, 0, 1, 2, 3, 4, 5, 8, 6] rfl rfl (by decide) (by decide) (by decide) (by decide) (fun u => rfl) 0 rfl rfl rfl hl.1 rfl (Nat.le_of_ble_eq_true rfl) dX4_days_8 ⟨Nat.zero_le _, Nat.zero_le _⟩ (fun r_7 u_7 H locs hw_7 hP hD hS => ?_)
  exact hret 11 _ r_7 ((gg.n, gg.r, gg.m, gg.im, gg.hs, gg.lt, gg.L, gg.rw, gg.M, (upd gg.rf (cN (-4)) (gg.rf (cN (-4)) + 1))), mm) _ _ dX4_days_11 (by first | (simp [sp_days, rfz, us, c_1, hw_7]; done) | (simp [sp_days, rfz, us, c_1, hw_7, isI]; done) | (simp [sp_days, rfz, us, c_1, hw_7, wrB, lackF]; done)) hP hD hS

set_option maxHeartbeats 4000000 in
set_option maxRecDepth 100000 in
theorem kX4_row (l : Launch) (D : va_G) (cI : ClassId) (sz : Nat) (a0 a1 a2 a3 a4 a5 a6 a7 a8 : Nat) (gg : GG) (mm : MS) (hG : Good gg) (p0 : Int32) : Met l yX4_row wsX4_row ({ frames := 1, cells := 0, slots := 0, locals := 22 }) (PRW D cI [.ref a0, .int p0] [(a0, .inr (3, [.ref a1, .ref a2, .ref a3, .ref a4, .int gg.hs, .ref a5, .ref a6, .ref a7, .int (nI gg.L), .int (nI gg.M), .int mm.pl, .ref a8, .int mm.sd])), (a1, .inl (cI, 49, .inl gg.r)), (a2, .inl (cI, 49, .inl mm.m)), (a3, .inl (cI, 49, .inl gg.im)), (a4, .inl (cI, 49, .inl mm.ws)), (a5, .inl (cI, 96, .inl gg.lt)), (a6, .inl (cI, 16, .inl gg.rw)), (a7, .inl (cI, 7, .inl gg.rf)), (a8, .inl (cI, 3, .inl mm.nb))] sz) (va_Qi (S := GG × MS) (fun v u => (v, u.1) = sp_row gg p0) (BRW D [(a0, .inr (3, [.ref a1, .ref a2, .ref a3, .ref a4, .int gg.hs, .ref a5, .ref a6, .ref a7, .int (nI gg.L), .int (nI gg.M), .int mm.pl, .ref a8, .int mm.sd])), (a1, .inl (cI, 49, .inl gg.r)), (a2, .inl (cI, 49, .inl mm.m)), (a3, .inl (cI, 49, .inl gg.im)), (a4, .inl (cI, 49, .inl mm.ws)), (a5, .inl (cI, 96, .inl gg.lt)), (a6, .inl (cI, 16, .inl gg.rw)), (a7, .inl (cI, 7, .inl gg.rf)), (a8, .inl (cI, 3, .inl mm.nb))] sz (fun u => [(a0, .inr (3, [.ref a1, .ref a2, .ref a3, .ref a4, .int u.1.hs, .ref a5, .ref a6, .ref a7, .int (nI u.1.L), .int (nI u.1.M), .int u.2.pl, .ref a8, .int u.2.sd])), (a1, .inl (cI, 49, .inl u.1.r)), (a2, .inl (cI, 49, .inl u.2.m)), (a3, .inl (cI, 49, .inl u.1.im)), (a4, .inl (cI, 49, .inl u.2.ws)), (a5, .inl (cI, 96, .inl u.1.lt)), (a6, .inl (cI, 16, .inl u.1.rw)), (a7, .inl (cI, 7, .inl u.1.rf)), (a8, .inl (cI, 3, .inl u.2.nb))])) (va_A [(a0, .inr (3, [.ref a1, .ref a2, .ref a3, .ref a4, .int gg.hs, .ref a5, .ref a6, .ref a7, .int (nI gg.L), .int (nI gg.M), .int mm.pl, .ref a8, .int mm.sd])), (a1, .inl (cI, 49, .inl gg.r)), (a2, .inl (cI, 49, .inl mm.m)), (a3, .inl (cI, 49, .inl gg.im)), (a4, .inl (cI, 49, .inl mm.ws)), (a5, .inl (cI, 96, .inl gg.lt)), (a6, .inl (cI, 16, .inl gg.rw)), (a7, .inl (cI, 7, .inl gg.rf)), (a8, .inl (cI, 3, .inl mm.nb))] sz)) 0 0 (va_A [(a0, .inr (3, [.ref a1, .ref a2, .ref a3, .ref a4, .int gg.hs, .ref a5, .ref a6, .ref a7, .int (nI gg.L), .int (nI gg.M), .int mm.pl, .ref a8, .int mm.sd])), (a1, .inl (cI, 49, .inl gg.r)), (a2, .inl (cI, 49, .inl mm.m)), (a3, .inl (cI, 49, .inl gg.im)), (a4, .inl (cI, 49, .inl mm.ws)), (a5, .inl (cI, 96, .inl gg.lt)), (a6, .inl (cI, 16, .inl gg.rw)), (a7, .inl (cI, 7, .inl gg.rf)), (a8, .inl (cI, 3, .inl mm.nb))] sz) := by
  refine st_rwi (cc := cX4_row) (maxL := 3) (rt := .int) (by decide) rfl (Nat.le_of_ble_eq_true rfl) (fun _ _ _ => rfl) ?_
  intro p e s m below meth c Q ls A hx hb hml hts hown hP hK hD hA hS hl hret
  replace hown : s.vm.findClass RX4 = some m.cls := hown
  replace hl : lv_has ls 3 [(0, .ref a0), (1, .int p0)] := hl
  obtain ⟨H, hH⟩ : ∃ z, z = s.heap := ⟨_, rfl⟩
  obtain ⟨locs, hlo⟩ : ∃ z : List Loc, z = [] := ⟨_, rfl⟩
  replace hP : va_P D vwCl [(a0, .inr (3, [.ref a1, .ref a2, .ref a3, .ref a4, .int gg.hs, .ref a5, .ref a6, .ref a7, .int (nI gg.L), .int (nI gg.M), .int mm.pl, .ref a8, .int mm.sd])), (a1, .inl (cI, 49, .inl gg.r)), (a2, .inl (cI, 49, .inl mm.m)), (a3, .inl (cI, 49, .inl gg.im)), (a4, .inl (cI, 49, .inl mm.ws)), (a5, .inl (cI, 96, .inl gg.lt)), (a6, .inl (cI, 16, .inl gg.rw)), (a7, .inl (cI, 7, .inl gg.rf)), (a8, .inl (cI, 3, .inl mm.nb))] H := by rw [hH]; exact hP
  replace hS : va_S A s.heap H locs := by rw [hH, hlo]; exact hS
  show W p l e ({ frames := 1, cells := 0, slots := 0, locals := 22 }) s m [.ref a0, .int p0].toArray below meth c s.heap [] 0 0 Q (F0 m 0 ls [])
  rw [← hlo]
  suffices hgo : W p l e ({ frames := 1, cells := 0, slots := 0, locals := 22 }) s m [.ref a0, .int p0].toArray below meth c H locs 0 0 Q (F0 m 0 ls []) by rw [hH] at hgo; exact hgo
  clear hH hlo
  have hi_X4 : ∀ w ∈ wsX40, w ∈ wsX4_row := fun w h => List.mem_cons_of_mem _ (List.mem_append_right _ (h))
  have hk_186 := hts (.fieldLink RX4 186 "NestsOfTalkModel" "rowMany" "I") (List.mem_of_getElem? (i := 1) rfl)
  have hk_25 := hts (.fieldLink RX4 25 "NestsOfTalkModel" "row" "[I") (List.mem_of_getElem? (i := 2) rfl)
  have hI := hG.inv
  have hn9 := hI.le
  have hL96 := hG.L96
  have hM16 := hG.M16
  refine lv_iload_n hx hb dX4_row_0 rfl (lv_at hl 1 rfl) ?_
  refine lv_iconst (v := 0) hx hb dX4_row_1 (by decide) ?_
  refine lv_bipush (v := 99) hx hb dX4_row_2 (by decide) ?_
  refine xc_Si (As := [.int p0, .int 0, .int 99]) (rest := []) ⟨hx, hb, hml, hown, hts⟩ (kX4_wrongBy l D cI p0 0 99) (va_cwS 3 hts gX4_row_X4_wrongBy rfl rfl rfl hs_X4_wrongBy ⟨Nat.le_of_ble_eq_true rfl, Nat.le_of_ble_eq_true rfl⟩) hK hP [] rfl rfl hl.1 rfl (Nat.le_of_ble_eq_true rfl) dX4_row_4 ⟨Nat.zero_le _, Nat.zero_le _⟩ (fun r_1 hr_1 => ?_)
  replace hr_1 : r_1 = wrB p0 0 99 := hr_1
  refine lv_istore_n (lv' := [(2, .int r_1), (0, .ref a0), (1, .int p0)]) hx hb dX4_row_7 rfl hl (by decide) rfl (fun ls hl => ?_)
  refine lv_iload_n hx hb dX4_row_8 rfl (lv_at hl 0 rfl) ?_
  refine lv_if_ne (tgt := 24) hx hb dX4_row_9 (by decide) (fun c_2 => ?_) (fun c_2 => ?_)
  · skip
    have hv_2 : ¬ wrB p0 0 99 = 0 := fun q => c_2 (hr_1.trans q)
    refine lv_iload_n hx hb dX4_row_24 rfl (lv_at hl 0 rfl) ?_
    refine lv_if_eq (tgt := 34) hx hb dX4_row_25 (by decide) (fun c_3 => ?_) (fun c_3 => ?_)
    · skip
      exact absurd c_3 c_2
    refine lv_aload_n hx hb dX4_row_28 rfl (lv_at hl 1 rfl) ?_
    refine lv_iload_n hx hb dX4_row_29 rfl (lv_at hl 0 rfl) ?_
    refine xw_Vi (As := [.int r_1]) (rest := []) (Wn := fun u => [(a0, .inr (3, [.ref a1, .ref a2, .ref a3, .ref a4, .int gg.hs, .ref a5, .ref a6, .ref a7, .int (nI gg.L), .int (nI gg.M), .int mm.pl, .ref a8, .int mm.sd])), (a1, .inl (cI, 49, .inl gg.r)), (a2, .inl (cI, 49, .inl mm.m)), (a3, .inl (cI, 49, .inl gg.im)), (a4, .inl (cI, 49, .inl mm.ws)), (a5, .inl (cI, 96, .inl gg.lt)), (a6, .inl (cI, 16, .inl gg.rw)), (a7, .inl (cI, 7, .inl (upd gg.rf (cN r_1) (gg.rf (cN r_1) + 1)))), (a8, .inl (cI, 3, .inl mm.nb))]) (Wr := [(a1, .inl (cI, 49, .inl gg.r)), (a2, .inl (cI, 49, .inl mm.m)), (a3, .inl (cI, 49, .inl gg.im)), (a4, .inl (cI, 49, .inl mm.ws)), (a5, .inl (cI, 96, .inl gg.lt)), (a6, .inl (cI, 16, .inl gg.rw)), (a8, .inl (cI, 3, .inl mm.nb))]) ⟨hx, hb, hml, hown, hts⟩ (kX4_no l D cI H.size a0 a1 a2 a3 a4 a5 a6 a7 a8 gg mm r_1 (okc_of hr_1 c_2)) (cwV 1 hts gX4_row_X4_no rfl rfl rfl hv_X4_no ⟨Nat.le_of_ble_eq_true rfl, Nat.le_of_ble_eq_true rfl⟩) hK hP hD hS hA [0, 7] [1, 2, 3, 4, 5, 6, 8] [7, 0, 1, 2, 3, 4, 5, 8, 6] rfl rfl (by decide) (by decide) (by decide) (by decide) (fun u => rfl) 0 rfl rfl rfl hl.1 rfl (Nat.le_of_ble_eq_true rfl) dX4_row_30 ⟨Nat.zero_le _, Nat.zero_le _⟩ (fun r_4 u_4 H locs hw_4 hP hD hS => ?_)
    exact hret 33 _ r_4 ((gg.n, gg.r, gg.m, gg.im, gg.hs, gg.lt, gg.L, gg.rw, gg.M, (upd gg.rf (cN r_1) (gg.rf (cN r_1) + 1))), mm) _ _ dX4_row_33 (by first | (simp [sp_row, rfz, us, c_2, hv_2, hw_4, hr_1]; done) | (simp [sp_row, rfz, us, c_2, hv_2, hw_4, hr_1, isI]; done) | (simp [sp_row, rfz, us, c_2, hv_2, hw_4, hr_1, wrB, lackF]; done)) hP hD hS
  have hv_2 : wrB p0 0 99 = 0 := hr_1.symm.trans c_2
  obtain ⟨v_2, vl_2, vu_2, ev_2⟩ := wrB_nat (a := 0) (b := 99) (rfl : (0 : Int32) = nI 0) (rfl : (99 : Int32) = nI 99) (by decide) (by decide) hv_2
  have tn_2 : tN p0 = v_2 := by rw [ev_2]; exact tN_nI (by omega)
  refine lv_aload_n hx hb dX4_row_12 rfl (lv_at hl 1 rfl) ?_
  refine va_get (D := D) (ci := 3) (v := .int (nI gg.M)) (C := RX4) (T := TX4) (N := 13) hx hb hts hi_X4 hown hK.1 hP 0 rfl rfl 9 (by decide) hk_186 (fun _ h9 => h9) rfl dX4_row_13 ?_
  refine lv_bipush (v := 16) hx hb dX4_row_16 (by decide) ?_
  refine lv_icmp_ne (tgt := 24) hx hb dX4_row_18 (by decide) (fun c_5 => ?_) (fun c_5 => ?_)
  · skip
    have n_5 : ¬ gg.M = 16 := fun q => c_5 ((ni_eq (a := gg.M) (b := 16) rfl (rfl : (16 : Int32) = nI 16) (by omega) (by decide)).mpr q)
    refine lv_iload_n hx hb dX4_row_24 rfl (lv_at hl 0 rfl) ?_
    refine lv_if_eq (tgt := 34) hx hb dX4_row_25 (by decide) (fun c_6 => ?_) (fun c_6 => ?_)
    · skip
      refine lv_aload_n hx hb dX4_row_34 rfl (lv_at hl 1 rfl) ?_
      refine va_get (D := D) (ci := 3) (v := .ref a6) (C := RX4) (T := TX4) (N := 13) hx hb hts hi_X4 hown hK.1 hP 0 rfl rfl 6 (by decide) hk_25 (fun _ h9 => h9) rfl dX4_row_35 ?_
      refine lv_aload_n hx hb dX4_row_38 rfl (lv_at hl 1 rfl) ?_
      refine va_get (D := D) (ci := 3) (v := .int (nI gg.M)) (C := RX4) (T := TX4) (N := 13) hx hb hts hi_X4 hown hK.1 hP 0 rfl rfl 9 (by decide) hk_186 (fun _ h9 => h9) rfl dX4_row_39 ?_
      refine lv_iload_n hx hb dX4_row_42 rfl (lv_at hl 2 rfl) ?_
      refine xa_st hx hb hK hP hD hS 6 rfl (j := gg.M) rfl (by omega) (by decide) dX4_row_43 (fun H locs hP hD hS => ?_)
      obtain ⟨f_7, ef_7⟩ : ∃ z : Nat → Int32, z = upd gg.rw gg.M p0 := ⟨_, rfl⟩
      replace hP : va_P D vwCl [(a0, .inr (3, [.ref a1, .ref a2, .ref a3, .ref a4, .int gg.hs, .ref a5, .ref a6, .ref a7, .int (nI gg.L), .int (nI gg.M), .int mm.pl, .ref a8, .int mm.sd])), (a1, .inl (cI, 49, .inl gg.r)), (a2, .inl (cI, 49, .inl mm.m)), (a3, .inl (cI, 49, .inl gg.im)), (a4, .inl (cI, 49, .inl mm.ws)), (a5, .inl (cI, 96, .inl gg.lt)), (a6, .inl (cI, 16, .inl (upd gg.rw gg.M p0))), (a7, .inl (cI, 7, .inl gg.rf)), (a8, .inl (cI, 3, .inl mm.nb))] H := hP
      replace hD : va_D A [(a0, .inr (3, [.ref a1, .ref a2, .ref a3, .ref a4, .int gg.hs, .ref a5, .ref a6, .ref a7, .int (nI gg.L), .int (nI gg.M), .int mm.pl, .ref a8, .int mm.sd])), (a1, .inl (cI, 49, .inl gg.r)), (a2, .inl (cI, 49, .inl mm.m)), (a3, .inl (cI, 49, .inl gg.im)), (a4, .inl (cI, 49, .inl mm.ws)), (a5, .inl (cI, 96, .inl gg.lt)), (a6, .inl (cI, 16, .inl (upd gg.rw gg.M p0))), (a7, .inl (cI, 7, .inl gg.rf)), (a8, .inl (cI, 3, .inl mm.nb))] := hD
      rw [← ef_7] at hP hD
      refine lv_aload_n hx hb dX4_row_44 rfl (lv_at hl 1 rfl) ?_
      refine lv_dup hx hb dX4_row_45 rfl ?_
      refine va_get (D := D) (ci := 3) (v := .int (nI gg.M)) (C := RX4) (T := TX4) (N := 13) hx hb hts hi_X4 hown hK.1 hP 0 rfl rfl 9 (by decide) hk_186 (fun _ h9 => h9) rfl dX4_row_46 ?_
      refine lv_iconst (v := 1) hx hb dX4_row_49 (by decide) ?_
      refine lv_iadd hx hb dX4_row_50 ?_
      refine lv_topi (fun z_8 ez_8 => ?_)
      obtain rfl : z_8 = nI (gg.M + 1) := ez_8.trans (ni_add (a := gg.M) (b := 1) rfl rfl (rfl : (1 : Int32) = nI 1))
      refine va_put (D := D) (ci := 3) (v := .int (nI (gg.M + 1))) (ty := .int) (C := RX4) (T := TX4) (N := 13) hx hb hts hi_X4 tyX4 tyX4_ok nmX4 hown hK.1 hP hD hS 0 rfl rfl 9 (by decide) hk_186 (fun _ h9 => h9) rfl pd_I rfl rfl (Nat.le_of_ble_eq_true rfl) dX4_row_51 (fun H locs hP hD hS => ?_)
      have hP : va_P D vwCl [(a0, .inr (3, [.ref a1, .ref a2, .ref a3, .ref a4, .int gg.hs, .ref a5, .ref a6, .ref a7, .int (nI gg.L), .int (nI (gg.M + 1)), .int mm.pl, .ref a8, .int mm.sd])), (a1, .inl (cI, 49, .inl gg.r)), (a2, .inl (cI, 49, .inl mm.m)), (a3, .inl (cI, 49, .inl gg.im)), (a4, .inl (cI, 49, .inl mm.ws)), (a5, .inl (cI, 96, .inl gg.lt)), (a6, .inl (cI, 16, .inl f_7)), (a7, .inl (cI, 7, .inl gg.rf)), (a8, .inl (cI, 3, .inl mm.nb))] H := hP
      have hD : va_D A [(a0, .inr (3, [.ref a1, .ref a2, .ref a3, .ref a4, .int gg.hs, .ref a5, .ref a6, .ref a7, .int (nI gg.L), .int (nI (gg.M + 1)), .int mm.pl, .ref a8, .int mm.sd])), (a1, .inl (cI, 49, .inl gg.r)), (a2, .inl (cI, 49, .inl mm.m)), (a3, .inl (cI, 49, .inl gg.im)), (a4, .inl (cI, 49, .inl mm.ws)), (a5, .inl (cI, 96, .inl gg.lt)), (a6, .inl (cI, 16, .inl f_7)), (a7, .inl (cI, 7, .inl gg.rf)), (a8, .inl (cI, 3, .inl mm.nb))] := hD
      refine lv_aload_n hx hb dX4_row_54 rfl (lv_at hl 1 rfl) ?_
      refine va_get (D := D) (ci := 3) (v := .int (nI (gg.M + 1))) (C := RX4) (T := TX4) (N := 13) hx hb hts hi_X4 hown hK.1 hP 0 rfl rfl 9 (by decide) hk_186 (fun _ h9 => h9) rfl dX4_row_55 ?_
      exact hret 58 _ (nI (gg.M + 1)) ((gg.n, gg.r, gg.m, gg.im, gg.hs, gg.lt, gg.L, f_7, (gg.M + 1), gg.rf), mm) _ _ dX4_row_58 (by first | (simp [sp_row, rfz, us, c_2, c_5, hv_2, tn_2, n_5, hr_1, ef_7]; done) | (simp [sp_row, rfz, us, c_2, c_5, hv_2, tn_2, n_5, hr_1, ef_7, isI]; done) | (simp [sp_row, rfz, us, c_2, c_5, hv_2, tn_2, n_5, hr_1, ef_7, wrB, lackF]; done)) hP hD hS
    exact absurd c_2 c_6
  have n_5 : gg.M = 16 := (ni_eq (a := gg.M) (b := 16) rfl (rfl : (16 : Int32) = nI 16) (by omega) (by decide)).mp c_5
  refine lv_bipush (v := (-6)) hx hb dX4_row_21 (by decide) ?_
  refine lv_istore_n (lv' := [(2, .int (-6)), (0, .ref a0), (1, .int p0)]) hx hb dX4_row_23 rfl hl (by decide) rfl (fun ls hl => ?_)
  refine lv_iload_n hx hb dX4_row_24 rfl (lv_at hl 0 rfl) ?_
  refine lv_if_eq (tgt := 34) hx hb dX4_row_25 (by decide) (fun c_9 => ?_) (fun c_9 => ?_)
  · skip
    exact absurd c_9 (by decide)
  refine lv_aload_n hx hb dX4_row_28 rfl (lv_at hl 1 rfl) ?_
  refine lv_iload_n hx hb dX4_row_29 rfl (lv_at hl 0 rfl) ?_
  refine xw_Vi (As := [.int (-6)]) (rest := []) (Wn := fun u => [(a0, .inr (3, [.ref a1, .ref a2, .ref a3, .ref a4, .int gg.hs, .ref a5, .ref a6, .ref a7, .int (nI gg.L), .int (nI gg.M), .int mm.pl, .ref a8, .int mm.sd])), (a1, .inl (cI, 49, .inl gg.r)), (a2, .inl (cI, 49, .inl mm.m)), (a3, .inl (cI, 49, .inl gg.im)), (a4, .inl (cI, 49, .inl mm.ws)), (a5, .inl (cI, 96, .inl gg.lt)), (a6, .inl (cI, 16, .inl gg.rw)), (a7, .inl (cI, 7, .inl (upd gg.rf (cN (-6)) (gg.rf (cN (-6)) + 1)))), (a8, .inl (cI, 3, .inl mm.nb))]) (Wr := [(a1, .inl (cI, 49, .inl gg.r)), (a2, .inl (cI, 49, .inl mm.m)), (a3, .inl (cI, 49, .inl gg.im)), (a4, .inl (cI, 49, .inl mm.ws)), (a5, .inl (cI, 96, .inl gg.lt)), (a6, .inl (cI, 16, .inl gg.rw)), (a8, .inl (cI, 3, .inl mm.nb))]) ⟨hx, hb, hml, hown, hts⟩ (kX4_no l D cI H.size a0 a1 a2 a3 a4 a5 a6 a7 a8 gg mm (-6) okc_6) (cwV 1 hts gX4_row_X4_no rfl rfl rfl hv_X4_no ⟨Nat.le_of_ble_eq_true rfl, Nat.le_of_ble_eq_true rfl⟩) hK hP hD hS hA [0, 7] [1, 2, 3, 4, 5, 6, 8] [7, 0, 1, 2, 3, 4, 5, 8, 6] rfl rfl (by decide) (by decide) (by decide) (by decide) (fun u => rfl) 0 rfl rfl rfl hl.1 rfl (Nat.le_of_ble_eq_true rfl) dX4_row_30 ⟨Nat.zero_le _, Nat.zero_le _⟩ (fun r_10 u_10 H locs hw_10 hP hD hS => ?_)
  exact hret 33 _ r_10 ((gg.n, gg.r, gg.m, gg.im, gg.hs, gg.lt, gg.L, gg.rw, gg.M, (upd gg.rf (cN (-6)) (gg.rf (cN (-6)) + 1))), mm) _ _ dX4_row_33 (by first | (simp [sp_row, rfz, us, c_2, c_5, hv_2, tn_2, n_5, hw_10, hr_1]; done) | (simp [sp_row, rfz, us, c_2, c_5, hv_2, tn_2, n_5, hw_10, hr_1, isI]; done) | (simp [sp_row, rfz, us, c_2, c_5, hv_2, tn_2, n_5, hw_10, hr_1, wrB, lackF]; done)) hP hD hS

set_option maxHeartbeats 4000000 in
set_option maxRecDepth 100000 in
theorem kX4_clear (l : Launch) (D : va_G) (cI : ClassId) (sz : Nat) (a0 a1 a2 a3 a4 a5 a6 a7 a8 : Nat) (gg : GG) (mm : MS) (hG : Good gg) : Met l yX4_clear wsX4_clear ({ frames := 0, cells := 0, slots := 0, locals := 0 }) (PRW D cI [.ref a0] [(a0, .inr (3, [.ref a1, .ref a2, .ref a3, .ref a4, .int gg.hs, .ref a5, .ref a6, .ref a7, .int (nI gg.L), .int (nI gg.M), .int mm.pl, .ref a8, .int mm.sd])), (a1, .inl (cI, 49, .inl gg.r)), (a2, .inl (cI, 49, .inl mm.m)), (a3, .inl (cI, 49, .inl gg.im)), (a4, .inl (cI, 49, .inl mm.ws)), (a5, .inl (cI, 96, .inl gg.lt)), (a6, .inl (cI, 16, .inl gg.rw)), (a7, .inl (cI, 7, .inl gg.rf)), (a8, .inl (cI, 3, .inl mm.nb))] sz) (va_Qi (S := GG × MS) (fun v u => (v, u.1) = sp_clear gg) (BRW D [(a0, .inr (3, [.ref a1, .ref a2, .ref a3, .ref a4, .int gg.hs, .ref a5, .ref a6, .ref a7, .int (nI gg.L), .int (nI gg.M), .int mm.pl, .ref a8, .int mm.sd])), (a1, .inl (cI, 49, .inl gg.r)), (a2, .inl (cI, 49, .inl mm.m)), (a3, .inl (cI, 49, .inl gg.im)), (a4, .inl (cI, 49, .inl mm.ws)), (a5, .inl (cI, 96, .inl gg.lt)), (a6, .inl (cI, 16, .inl gg.rw)), (a7, .inl (cI, 7, .inl gg.rf)), (a8, .inl (cI, 3, .inl mm.nb))] sz (fun u => [(a0, .inr (3, [.ref a1, .ref a2, .ref a3, .ref a4, .int u.1.hs, .ref a5, .ref a6, .ref a7, .int (nI u.1.L), .int (nI u.1.M), .int u.2.pl, .ref a8, .int u.2.sd])), (a1, .inl (cI, 49, .inl u.1.r)), (a2, .inl (cI, 49, .inl u.2.m)), (a3, .inl (cI, 49, .inl u.1.im)), (a4, .inl (cI, 49, .inl u.2.ws)), (a5, .inl (cI, 96, .inl u.1.lt)), (a6, .inl (cI, 16, .inl u.1.rw)), (a7, .inl (cI, 7, .inl u.1.rf)), (a8, .inl (cI, 3, .inl u.2.nb))])) (va_A [(a0, .inr (3, [.ref a1, .ref a2, .ref a3, .ref a4, .int gg.hs, .ref a5, .ref a6, .ref a7, .int (nI gg.L), .int (nI gg.M), .int mm.pl, .ref a8, .int mm.sd])), (a1, .inl (cI, 49, .inl gg.r)), (a2, .inl (cI, 49, .inl mm.m)), (a3, .inl (cI, 49, .inl gg.im)), (a4, .inl (cI, 49, .inl mm.ws)), (a5, .inl (cI, 96, .inl gg.lt)), (a6, .inl (cI, 16, .inl gg.rw)), (a7, .inl (cI, 7, .inl gg.rf)), (a8, .inl (cI, 3, .inl mm.nb))] sz)) 0 0 (va_A [(a0, .inr (3, [.ref a1, .ref a2, .ref a3, .ref a4, .int gg.hs, .ref a5, .ref a6, .ref a7, .int (nI gg.L), .int (nI gg.M), .int mm.pl, .ref a8, .int mm.sd])), (a1, .inl (cI, 49, .inl gg.r)), (a2, .inl (cI, 49, .inl mm.m)), (a3, .inl (cI, 49, .inl gg.im)), (a4, .inl (cI, 49, .inl mm.ws)), (a5, .inl (cI, 96, .inl gg.lt)), (a6, .inl (cI, 16, .inl gg.rw)), (a7, .inl (cI, 7, .inl gg.rf)), (a8, .inl (cI, 3, .inl mm.nb))] sz) := by
  refine st_rwi (cc := cX4_clear) (maxL := 2) (rt := .int) (by decide) rfl (Nat.le_of_ble_eq_true rfl) (fun _ _ _ => rfl) ?_
  intro p e s m below meth c Q ls A hx hb hml hts hown hP hK hD hA hS hl hret
  replace hown : s.vm.findClass RX4 = some m.cls := hown
  replace hl : lv_has ls 2 [(0, .ref a0)] := hl
  obtain ⟨H, hH⟩ : ∃ z, z = s.heap := ⟨_, rfl⟩
  obtain ⟨locs, hlo⟩ : ∃ z : List Loc, z = [] := ⟨_, rfl⟩
  replace hP : va_P D vwCl [(a0, .inr (3, [.ref a1, .ref a2, .ref a3, .ref a4, .int gg.hs, .ref a5, .ref a6, .ref a7, .int (nI gg.L), .int (nI gg.M), .int mm.pl, .ref a8, .int mm.sd])), (a1, .inl (cI, 49, .inl gg.r)), (a2, .inl (cI, 49, .inl mm.m)), (a3, .inl (cI, 49, .inl gg.im)), (a4, .inl (cI, 49, .inl mm.ws)), (a5, .inl (cI, 96, .inl gg.lt)), (a6, .inl (cI, 16, .inl gg.rw)), (a7, .inl (cI, 7, .inl gg.rf)), (a8, .inl (cI, 3, .inl mm.nb))] H := by rw [hH]; exact hP
  replace hS : va_S A s.heap H locs := by rw [hH, hlo]; exact hS
  show W p l e ({ frames := 0, cells := 0, slots := 0, locals := 0 }) s m [.ref a0].toArray below meth c s.heap [] 0 0 Q (F0 m 0 ls [])
  rw [← hlo]
  suffices hgo : W p l e ({ frames := 0, cells := 0, slots := 0, locals := 0 }) s m [.ref a0].toArray below meth c H locs 0 0 Q (F0 m 0 ls []) by rw [hH] at hgo; exact hgo
  clear hH hlo
  have hi_X4 : ∀ w ∈ wsX40, w ∈ wsX4_clear := fun w h => List.mem_cons_of_mem _ (List.mem_append_right _ (h))
  have hk_186 := hts (.fieldLink RX4 186 "NestsOfTalkModel" "rowMany" "I") (List.mem_of_getElem? (i := 1) rfl)
  have hI := hG.inv
  have hn9 := hI.le
  have hL96 := hG.L96
  have hM16 := hG.M16
  refine lv_aload_n hx hb dX4_clear_0 rfl (lv_at hl 0 rfl) ?_
  refine va_get (D := D) (ci := 3) (v := .int (nI gg.M)) (C := RX4) (T := TX4) (N := 13) hx hb hts hi_X4 hown hK.1 hP 0 rfl rfl 9 (by decide) hk_186 (fun _ h9 => h9) rfl dX4_clear_1 ?_
  refine lv_topi (fun x_1 ex_1 => ?_)
  refine lv_istore_n (lv' := [(1, .int x_1), (0, .ref a0)]) hx hb dX4_clear_4 rfl hl (by decide) rfl (fun ls hl => ?_)
  refine lv_aload_n hx hb dX4_clear_5 rfl (lv_at hl 1 rfl) ?_
  refine lv_iconst (v := 0) hx hb dX4_clear_6 (by decide) ?_
  refine va_put (D := D) (ci := 3) (v := .int 0) (ty := .int) (C := RX4) (T := TX4) (N := 13) hx hb hts hi_X4 tyX4 tyX4_ok nmX4 hown hK.1 hP hD hS 0 rfl rfl 9 (by decide) hk_186 (fun _ h9 => h9) rfl pd_I rfl rfl (Nat.le_of_ble_eq_true rfl) dX4_clear_7 (fun H locs hP hD hS => ?_)
  have hP : va_P D vwCl [(a0, .inr (3, [.ref a1, .ref a2, .ref a3, .ref a4, .int gg.hs, .ref a5, .ref a6, .ref a7, .int (nI gg.L), .int 0, .int mm.pl, .ref a8, .int mm.sd])), (a1, .inl (cI, 49, .inl gg.r)), (a2, .inl (cI, 49, .inl mm.m)), (a3, .inl (cI, 49, .inl gg.im)), (a4, .inl (cI, 49, .inl mm.ws)), (a5, .inl (cI, 96, .inl gg.lt)), (a6, .inl (cI, 16, .inl gg.rw)), (a7, .inl (cI, 7, .inl gg.rf)), (a8, .inl (cI, 3, .inl mm.nb))] H := hP
  have hD : va_D A [(a0, .inr (3, [.ref a1, .ref a2, .ref a3, .ref a4, .int gg.hs, .ref a5, .ref a6, .ref a7, .int (nI gg.L), .int 0, .int mm.pl, .ref a8, .int mm.sd])), (a1, .inl (cI, 49, .inl gg.r)), (a2, .inl (cI, 49, .inl mm.m)), (a3, .inl (cI, 49, .inl gg.im)), (a4, .inl (cI, 49, .inl mm.ws)), (a5, .inl (cI, 96, .inl gg.lt)), (a6, .inl (cI, 16, .inl gg.rw)), (a7, .inl (cI, 7, .inl gg.rf)), (a8, .inl (cI, 3, .inl mm.nb))] := hD
  refine lv_iload_n hx hb dX4_clear_10 rfl (lv_at hl 0 rfl) ?_
  exact hret 11 _ x_1 ((gg.n, gg.r, gg.m, gg.im, gg.hs, gg.lt, gg.L, gg.rw, 0, gg.rf), mm) _ _ dX4_clear_11 (by first | (simp [sp_clear, rfz, us, ex_1]; done) | (simp [sp_clear, rfz, us, ex_1, isI]; done) | (simp [sp_clear, rfz, us, ex_1, wrB, lackF]; done)) hP hD hS

set_option maxHeartbeats 4000000 in
set_option maxRecDepth 100000 in
theorem kX4_image (l : Launch) (D : va_G) (cI : ClassId) (sz : Nat) (a0 a1 a2 a3 a4 a5 a6 a7 a8 : Nat) (gg : GG) (mm : MS) (hG : Good gg) : Met l yX4_image wsX4_image ({ frames := 1, cells := 0, slots := 0, locals := 22 }) (PRW D cI [.ref a0] [(a0, .inr (3, [.ref a1, .ref a2, .ref a3, .ref a4, .int gg.hs, .ref a5, .ref a6, .ref a7, .int (nI gg.L), .int (nI gg.M), .int mm.pl, .ref a8, .int mm.sd])), (a1, .inl (cI, 49, .inl gg.r)), (a2, .inl (cI, 49, .inl mm.m)), (a3, .inl (cI, 49, .inl gg.im)), (a4, .inl (cI, 49, .inl mm.ws)), (a5, .inl (cI, 96, .inl gg.lt)), (a6, .inl (cI, 16, .inl gg.rw)), (a7, .inl (cI, 7, .inl gg.rf)), (a8, .inl (cI, 3, .inl mm.nb))] sz) (va_Qi (S := GG × MS) (fun v u => (v, u.1) = sp_image gg) (BRW D [(a0, .inr (3, [.ref a1, .ref a2, .ref a3, .ref a4, .int gg.hs, .ref a5, .ref a6, .ref a7, .int (nI gg.L), .int (nI gg.M), .int mm.pl, .ref a8, .int mm.sd])), (a1, .inl (cI, 49, .inl gg.r)), (a2, .inl (cI, 49, .inl mm.m)), (a3, .inl (cI, 49, .inl gg.im)), (a4, .inl (cI, 49, .inl mm.ws)), (a5, .inl (cI, 96, .inl gg.lt)), (a6, .inl (cI, 16, .inl gg.rw)), (a7, .inl (cI, 7, .inl gg.rf)), (a8, .inl (cI, 3, .inl mm.nb))] sz (fun u => [(a0, .inr (3, [.ref a1, .ref a2, .ref a3, .ref a4, .int u.1.hs, .ref a5, .ref a6, .ref a7, .int (nI u.1.L), .int (nI u.1.M), .int u.2.pl, .ref a8, .int u.2.sd])), (a1, .inl (cI, 49, .inl u.1.r)), (a2, .inl (cI, 49, .inl u.2.m)), (a3, .inl (cI, 49, .inl u.1.im)), (a4, .inl (cI, 49, .inl u.2.ws)), (a5, .inl (cI, 96, .inl u.1.lt)), (a6, .inl (cI, 16, .inl u.1.rw)), (a7, .inl (cI, 7, .inl u.1.rf)), (a8, .inl (cI, 3, .inl u.2.nb))])) (va_A [(a0, .inr (3, [.ref a1, .ref a2, .ref a3, .ref a4, .int gg.hs, .ref a5, .ref a6, .ref a7, .int (nI gg.L), .int (nI gg.M), .int mm.pl, .ref a8, .int mm.sd])), (a1, .inl (cI, 49, .inl gg.r)), (a2, .inl (cI, 49, .inl mm.m)), (a3, .inl (cI, 49, .inl gg.im)), (a4, .inl (cI, 49, .inl mm.ws)), (a5, .inl (cI, 96, .inl gg.lt)), (a6, .inl (cI, 16, .inl gg.rw)), (a7, .inl (cI, 7, .inl gg.rf)), (a8, .inl (cI, 3, .inl mm.nb))] sz)) 0 0 (va_A [(a0, .inr (3, [.ref a1, .ref a2, .ref a3, .ref a4, .int gg.hs, .ref a5, .ref a6, .ref a7, .int (nI gg.L), .int (nI gg.M), .int mm.pl, .ref a8, .int mm.sd])), (a1, .inl (cI, 49, .inl gg.r)), (a2, .inl (cI, 49, .inl mm.m)), (a3, .inl (cI, 49, .inl gg.im)), (a4, .inl (cI, 49, .inl mm.ws)), (a5, .inl (cI, 96, .inl gg.lt)), (a6, .inl (cI, 16, .inl gg.rw)), (a7, .inl (cI, 7, .inl gg.rf)), (a8, .inl (cI, 3, .inl mm.nb))] sz) := by
  refine st_rwi (cc := cX4_image) (maxL := 1) (rt := .int) (by decide) rfl (Nat.le_of_ble_eq_true rfl) (fun _ _ _ => rfl) ?_
  intro p e s m below meth c Q ls A hx hb hml hts hown hP hK hD hA hS hl hret
  replace hown : s.vm.findClass RX4 = some m.cls := hown
  replace hl : lv_has ls 1 [(0, .ref a0)] := hl
  obtain ⟨H, hH⟩ : ∃ z, z = s.heap := ⟨_, rfl⟩
  obtain ⟨locs, hlo⟩ : ∃ z : List Loc, z = [] := ⟨_, rfl⟩
  replace hP : va_P D vwCl [(a0, .inr (3, [.ref a1, .ref a2, .ref a3, .ref a4, .int gg.hs, .ref a5, .ref a6, .ref a7, .int (nI gg.L), .int (nI gg.M), .int mm.pl, .ref a8, .int mm.sd])), (a1, .inl (cI, 49, .inl gg.r)), (a2, .inl (cI, 49, .inl mm.m)), (a3, .inl (cI, 49, .inl gg.im)), (a4, .inl (cI, 49, .inl mm.ws)), (a5, .inl (cI, 96, .inl gg.lt)), (a6, .inl (cI, 16, .inl gg.rw)), (a7, .inl (cI, 7, .inl gg.rf)), (a8, .inl (cI, 3, .inl mm.nb))] H := by rw [hH]; exact hP
  replace hS : va_S A s.heap H locs := by rw [hH, hlo]; exact hS
  show W p l e ({ frames := 1, cells := 0, slots := 0, locals := 22 }) s m [.ref a0].toArray below meth c s.heap [] 0 0 Q (F0 m 0 ls [])
  rw [← hlo]
  suffices hgo : W p l e ({ frames := 1, cells := 0, slots := 0, locals := 22 }) s m [.ref a0].toArray below meth c H locs 0 0 Q (F0 m 0 ls []) by rw [hH] at hgo; exact hgo
  clear hH hlo
  have hi_X4 : ∀ w ∈ wsX40, w ∈ wsX4_image := fun w h => List.mem_cons_of_mem _ (List.mem_append_right _ (h))
  have hk_9 := hts (.fieldLink RX4 9 "NestsOfTalkModel" "s" "[I") (List.mem_of_getElem? (i := 1) rfl)
  have hk_16 := hts (.fieldLink RX4 16 "NestsOfTalkModel" "image" "[I") (List.mem_of_getElem? (i := 2) rfl)
  have hk_198 := hts (.fieldLink RX4 198 "NestsOfTalkModel" "hasImage" "Z") (List.mem_of_getElem? (i := 3) rfl)
  have hI := hG.inv
  have hn9 := hI.le
  have hL96 := hG.L96
  have hM16 := hG.M16
  refine lv_aload_n hx hb dX4_image_0 rfl (lv_at hl 0 rfl) ?_
  refine va_get (D := D) (ci := 3) (v := .ref a1) (C := RX4) (T := TX4) (N := 13) hx hb hts hi_X4 hown hK.1 hP 0 rfl rfl 0 (by decide) hk_9 (fun _ h9 => h9) rfl dX4_image_1 ?_
  refine lv_aload_n hx hb dX4_image_4 rfl (lv_at hl 0 rfl) ?_
  refine va_get (D := D) (ci := 3) (v := .ref a3) (C := RX4) (T := TX4) (N := 13) hx hb hts hi_X4 hown hK.1 hP 0 rfl rfl 2 (by decide) hk_16 (fun _ h9 => h9) rfl dX4_image_5 ?_
  refine xw_Sv (As := [.ref a1, .ref a3]) (rest := []) (Wn := fun u => [(a0, .inr (3, [.ref a1, .ref a2, .ref a3, .ref a4, .int gg.hs, .ref a5, .ref a6, .ref a7, .int (nI gg.L), .int (nI gg.M), .int mm.pl, .ref a8, .int mm.sd])), (a1, .inl (cI, 49, .inl gg.r)), (a2, .inl (cI, 49, .inl mm.m)), (a3, .inl (cI, 49, .inl gg.r)), (a4, .inl (cI, 49, .inl mm.ws)), (a5, .inl (cI, 96, .inl gg.lt)), (a6, .inl (cI, 16, .inl gg.rw)), (a7, .inl (cI, 7, .inl gg.rf)), (a8, .inl (cI, 3, .inl mm.nb))]) (Wr := [(a0, .inr (3, [.ref a1, .ref a2, .ref a3, .ref a4, .int gg.hs, .ref a5, .ref a6, .ref a7, .int (nI gg.L), .int (nI gg.M), .int mm.pl, .ref a8, .int mm.sd])), (a2, .inl (cI, 49, .inl mm.m)), (a4, .inl (cI, 49, .inl mm.ws)), (a5, .inl (cI, 96, .inl gg.lt)), (a6, .inl (cI, 16, .inl gg.rw)), (a7, .inl (cI, 7, .inl gg.rf)), (a8, .inl (cI, 3, .inl mm.nb))]) ⟨hx, hb, hml, hown, hts⟩ (kX4_copies l D cI H.size a1 a3 gg.r gg.im) (va_cwS 2 hts gX4_image_X4_copies rfl rfl rfl hs_X4_copies ⟨Nat.le_of_ble_eq_true rfl, Nat.le_of_ble_eq_true rfl⟩) hK hP hD hS hA [1, 3] [0, 2, 4, 5, 6, 7, 8] [0, 7, 1, 8, 2, 3, 4, 5, 6] rfl rfl (by decide) (by decide) (by decide) (by decide) (fun u => rfl) rfl hl.1 rfl (Nat.le_of_ble_eq_true rfl) dX4_image_8 ⟨Nat.zero_le _, Nat.zero_le _⟩ (fun u_1 H locs hw_1 hP hD hS => ?_)
  refine lv_aload_n hx hb dX4_image_11 rfl (lv_at hl 0 rfl) ?_
  refine lv_iconst (v := 1) hx hb dX4_image_12 (by decide) ?_
  refine va_put (D := D) (ci := 3) (v := .int 1) (ty := .boolean) (C := RX4) (T := TX4) (N := 13) hx hb hts hi_X4 tyX4 tyX4_ok nmX4 hown hK.1 hP hD hS 0 rfl rfl 4 (by decide) hk_198 (fun _ h9 => h9) rfl pd_Z rfl rfl (Nat.le_of_ble_eq_true rfl) dX4_image_13 (fun H locs hP hD hS => ?_)
  have hP : va_P D vwCl [(a0, .inr (3, [.ref a1, .ref a2, .ref a3, .ref a4, .int 1, .ref a5, .ref a6, .ref a7, .int (nI gg.L), .int (nI gg.M), .int mm.pl, .ref a8, .int mm.sd])), (a1, .inl (cI, 49, .inl gg.r)), (a2, .inl (cI, 49, .inl mm.m)), (a3, .inl (cI, 49, .inl gg.r)), (a4, .inl (cI, 49, .inl mm.ws)), (a5, .inl (cI, 96, .inl gg.lt)), (a6, .inl (cI, 16, .inl gg.rw)), (a7, .inl (cI, 7, .inl gg.rf)), (a8, .inl (cI, 3, .inl mm.nb))] H := hP
  have hD : va_D A [(a0, .inr (3, [.ref a1, .ref a2, .ref a3, .ref a4, .int 1, .ref a5, .ref a6, .ref a7, .int (nI gg.L), .int (nI gg.M), .int mm.pl, .ref a8, .int mm.sd])), (a1, .inl (cI, 49, .inl gg.r)), (a2, .inl (cI, 49, .inl mm.m)), (a3, .inl (cI, 49, .inl gg.r)), (a4, .inl (cI, 49, .inl mm.ws)), (a5, .inl (cI, 96, .inl gg.lt)), (a6, .inl (cI, 16, .inl gg.rw)), (a7, .inl (cI, 7, .inl gg.rf)), (a8, .inl (cI, 3, .inl mm.nb))] := hD
  refine lv_aload_n hx hb dX4_image_16 rfl (lv_at hl 0 rfl) ?_
  refine va_get (D := D) (ci := 3) (v := .ref a1) (C := RX4) (T := TX4) (N := 13) hx hb hts hi_X4 hown hK.1 hP 0 rfl rfl 0 (by decide) hk_9 (fun _ h9 => h9) rfl dX4_image_17 ?_
  refine lv_iconst (v := 1) hx hb dX4_image_20 (by decide) ?_
  refine xa_ld hx hb hK hP 1 rfl (j := 1) (rfl : (1 : Int32) = nI 1) (by omega) (by decide) dX4_image_21 ?_
  exact hret 22 _ (gg.r 1) ((gg.n, gg.r, gg.n, gg.r, 1, gg.lt, gg.L, gg.rw, gg.M, gg.rf), mm) _ _ dX4_image_22 (by first | (simp [sp_image, rfz, us]; done) | (simp [sp_image, rfz, us, isI]; done) | (simp [sp_image, rfz, us, wrB, lackF]; done)) hP hD hS

set_option maxHeartbeats 4000000 in
set_option maxRecDepth 100000 in
theorem kX4_on (l : Launch) (D : va_G) (cI : ClassId) (sz : Nat) (a0 a1 a2 a3 a4 a5 a6 a7 a8 : Nat) (gg : GG) (mm : MS) (hG : Good gg) : Met l yX4_on wsX4_on ({ frames := 1, cells := 0, slots := 0, locals := 22 }) (PRW D cI [.ref a0] [(a0, .inr (3, [.ref a1, .ref a2, .ref a3, .ref a4, .int gg.hs, .ref a5, .ref a6, .ref a7, .int (nI gg.L), .int (nI gg.M), .int mm.pl, .ref a8, .int mm.sd])), (a1, .inl (cI, 49, .inl gg.r)), (a2, .inl (cI, 49, .inl mm.m)), (a3, .inl (cI, 49, .inl gg.im)), (a4, .inl (cI, 49, .inl mm.ws)), (a5, .inl (cI, 96, .inl gg.lt)), (a6, .inl (cI, 16, .inl gg.rw)), (a7, .inl (cI, 7, .inl gg.rf)), (a8, .inl (cI, 3, .inl mm.nb))] sz) (va_Qi (S := GG × MS) (fun v u => (v, u.1) = sp_on gg) (BRW D [(a0, .inr (3, [.ref a1, .ref a2, .ref a3, .ref a4, .int gg.hs, .ref a5, .ref a6, .ref a7, .int (nI gg.L), .int (nI gg.M), .int mm.pl, .ref a8, .int mm.sd])), (a1, .inl (cI, 49, .inl gg.r)), (a2, .inl (cI, 49, .inl mm.m)), (a3, .inl (cI, 49, .inl gg.im)), (a4, .inl (cI, 49, .inl mm.ws)), (a5, .inl (cI, 96, .inl gg.lt)), (a6, .inl (cI, 16, .inl gg.rw)), (a7, .inl (cI, 7, .inl gg.rf)), (a8, .inl (cI, 3, .inl mm.nb))] sz (fun u => [(a0, .inr (3, [.ref a1, .ref a2, .ref a3, .ref a4, .int u.1.hs, .ref a5, .ref a6, .ref a7, .int (nI u.1.L), .int (nI u.1.M), .int u.2.pl, .ref a8, .int u.2.sd])), (a1, .inl (cI, 49, .inl u.1.r)), (a2, .inl (cI, 49, .inl u.2.m)), (a3, .inl (cI, 49, .inl u.1.im)), (a4, .inl (cI, 49, .inl u.2.ws)), (a5, .inl (cI, 96, .inl u.1.lt)), (a6, .inl (cI, 16, .inl u.1.rw)), (a7, .inl (cI, 7, .inl u.1.rf)), (a8, .inl (cI, 3, .inl u.2.nb))])) (va_A [(a0, .inr (3, [.ref a1, .ref a2, .ref a3, .ref a4, .int gg.hs, .ref a5, .ref a6, .ref a7, .int (nI gg.L), .int (nI gg.M), .int mm.pl, .ref a8, .int mm.sd])), (a1, .inl (cI, 49, .inl gg.r)), (a2, .inl (cI, 49, .inl mm.m)), (a3, .inl (cI, 49, .inl gg.im)), (a4, .inl (cI, 49, .inl mm.ws)), (a5, .inl (cI, 96, .inl gg.lt)), (a6, .inl (cI, 16, .inl gg.rw)), (a7, .inl (cI, 7, .inl gg.rf)), (a8, .inl (cI, 3, .inl mm.nb))] sz)) 0 0 (va_A [(a0, .inr (3, [.ref a1, .ref a2, .ref a3, .ref a4, .int gg.hs, .ref a5, .ref a6, .ref a7, .int (nI gg.L), .int (nI gg.M), .int mm.pl, .ref a8, .int mm.sd])), (a1, .inl (cI, 49, .inl gg.r)), (a2, .inl (cI, 49, .inl mm.m)), (a3, .inl (cI, 49, .inl gg.im)), (a4, .inl (cI, 49, .inl mm.ws)), (a5, .inl (cI, 96, .inl gg.lt)), (a6, .inl (cI, 16, .inl gg.rw)), (a7, .inl (cI, 7, .inl gg.rf)), (a8, .inl (cI, 3, .inl mm.nb))] sz) := by
  refine st_rwi (cc := cX4_on) (maxL := 1) (rt := .int) (by decide) rfl (Nat.le_of_ble_eq_true rfl) (fun _ _ _ => rfl) ?_
  intro p e s m below meth c Q ls A hx hb hml hts hown hP hK hD hA hS hl hret
  replace hown : s.vm.findClass RX4 = some m.cls := hown
  replace hl : lv_has ls 1 [(0, .ref a0)] := hl
  obtain ⟨H, hH⟩ : ∃ z, z = s.heap := ⟨_, rfl⟩
  obtain ⟨locs, hlo⟩ : ∃ z : List Loc, z = [] := ⟨_, rfl⟩
  replace hP : va_P D vwCl [(a0, .inr (3, [.ref a1, .ref a2, .ref a3, .ref a4, .int gg.hs, .ref a5, .ref a6, .ref a7, .int (nI gg.L), .int (nI gg.M), .int mm.pl, .ref a8, .int mm.sd])), (a1, .inl (cI, 49, .inl gg.r)), (a2, .inl (cI, 49, .inl mm.m)), (a3, .inl (cI, 49, .inl gg.im)), (a4, .inl (cI, 49, .inl mm.ws)), (a5, .inl (cI, 96, .inl gg.lt)), (a6, .inl (cI, 16, .inl gg.rw)), (a7, .inl (cI, 7, .inl gg.rf)), (a8, .inl (cI, 3, .inl mm.nb))] H := by rw [hH]; exact hP
  replace hS : va_S A s.heap H locs := by rw [hH, hlo]; exact hS
  show W p l e ({ frames := 1, cells := 0, slots := 0, locals := 22 }) s m [.ref a0].toArray below meth c s.heap [] 0 0 Q (F0 m 0 ls [])
  rw [← hlo]
  suffices hgo : W p l e ({ frames := 1, cells := 0, slots := 0, locals := 22 }) s m [.ref a0].toArray below meth c H locs 0 0 Q (F0 m 0 ls []) by rw [hH] at hgo; exact hgo
  clear hH hlo
  have hi_X4 : ∀ w ∈ wsX40, w ∈ wsX4_on := fun w h => List.mem_cons_of_mem _ (List.mem_append_right _ (h))
  have hk_198 := hts (.fieldLink RX4 198 "NestsOfTalkModel" "hasImage" "Z") (List.mem_of_getElem? (i := 1) rfl)
  have hk_16 := hts (.fieldLink RX4 16 "NestsOfTalkModel" "image" "[I") (List.mem_of_getElem? (i := 2) rfl)
  have hk_9 := hts (.fieldLink RX4 9 "NestsOfTalkModel" "s" "[I") (List.mem_of_getElem? (i := 3) rfl)
  have hI := hG.inv
  have hn9 := hI.le
  have hL96 := hG.L96
  have hM16 := hG.M16
  refine lv_aload_n hx hb dX4_on_0 rfl (lv_at hl 0 rfl) ?_
  refine va_get (D := D) (ci := 3) (v := .int gg.hs) (C := RX4) (T := TX4) (N := 13) hx hb hts hi_X4 hown hK.1 hP 0 rfl rfl 4 (by decide) hk_198 (fun _ h9 => h9) rfl dX4_on_1 ?_
  refine lv_if_ne (tgt := 14) hx hb dX4_on_4 (by decide) (fun c_1 => ?_) (fun c_1 => ?_)
  · skip
    refine lv_aload_n hx hb dX4_on_14 rfl (lv_at hl 0 rfl) ?_
    refine va_get (D := D) (ci := 3) (v := .ref a3) (C := RX4) (T := TX4) (N := 13) hx hb hts hi_X4 hown hK.1 hP 0 rfl rfl 2 (by decide) hk_16 (fun _ h9 => h9) rfl dX4_on_15 ?_
    refine lv_aload_n hx hb dX4_on_18 rfl (lv_at hl 0 rfl) ?_
    refine va_get (D := D) (ci := 3) (v := .ref a1) (C := RX4) (T := TX4) (N := 13) hx hb hts hi_X4 hown hK.1 hP 0 rfl rfl 0 (by decide) hk_9 (fun _ h9 => h9) rfl dX4_on_19 ?_
    refine xw_Sv (As := [.ref a3, .ref a1]) (rest := []) (Wn := fun u => [(a0, .inr (3, [.ref a1, .ref a2, .ref a3, .ref a4, .int gg.hs, .ref a5, .ref a6, .ref a7, .int (nI gg.L), .int (nI gg.M), .int mm.pl, .ref a8, .int mm.sd])), (a1, .inl (cI, 49, .inl gg.im)), (a2, .inl (cI, 49, .inl mm.m)), (a3, .inl (cI, 49, .inl gg.im)), (a4, .inl (cI, 49, .inl mm.ws)), (a5, .inl (cI, 96, .inl gg.lt)), (a6, .inl (cI, 16, .inl gg.rw)), (a7, .inl (cI, 7, .inl gg.rf)), (a8, .inl (cI, 3, .inl mm.nb))]) (Wr := [(a0, .inr (3, [.ref a1, .ref a2, .ref a3, .ref a4, .int gg.hs, .ref a5, .ref a6, .ref a7, .int (nI gg.L), .int (nI gg.M), .int mm.pl, .ref a8, .int mm.sd])), (a2, .inl (cI, 49, .inl mm.m)), (a4, .inl (cI, 49, .inl mm.ws)), (a5, .inl (cI, 96, .inl gg.lt)), (a6, .inl (cI, 16, .inl gg.rw)), (a7, .inl (cI, 7, .inl gg.rf)), (a8, .inl (cI, 3, .inl mm.nb))]) ⟨hx, hb, hml, hown, hts⟩ (kX4_copies l D cI H.size a3 a1 gg.im gg.r) (va_cwS 2 hts gX4_on_X4_copies rfl rfl rfl hs_X4_copies ⟨Nat.le_of_ble_eq_true rfl, Nat.le_of_ble_eq_true rfl⟩) hK hP hD hS hA [3, 1] [0, 2, 4, 5, 6, 7, 8] [0, 8, 1, 7, 2, 3, 4, 5, 6] rfl rfl (by decide) (by decide) (by decide) (by decide) (fun u => rfl) rfl hl.1 rfl (Nat.le_of_ble_eq_true rfl) dX4_on_22 ⟨Nat.zero_le _, Nat.zero_le _⟩ (fun u_2 H locs hw_2 hP hD hS => ?_)
    refine lv_aload_n hx hb dX4_on_25 rfl (lv_at hl 0 rfl) ?_
    refine va_get (D := D) (ci := 3) (v := .ref a1) (C := RX4) (T := TX4) (N := 13) hx hb hts hi_X4 hown hK.1 hP 0 rfl rfl 0 (by decide) hk_9 (fun _ h9 => h9) rfl dX4_on_26 ?_
    refine lv_iconst (v := 1) hx hb dX4_on_29 (by decide) ?_
    refine xa_ld hx hb hK hP 1 rfl (j := 1) (rfl : (1 : Int32) = nI 1) (by omega) (by decide) dX4_on_30 ?_
    exact hret 31 _ (gg.im 1) ((gg.m, gg.im, gg.m, gg.im, gg.hs, gg.lt, gg.L, gg.rw, gg.M, gg.rf), mm) _ _ dX4_on_31 (by first | (simp [sp_on, rfz, us, c_1]; done) | (simp [sp_on, rfz, us, c_1, isI]; done) | (simp [sp_on, rfz, us, c_1, wrB, lackF]; done)) hP hD hS
  refine lv_aload_n hx hb dX4_on_7 rfl (lv_at hl 0 rfl) ?_
  refine lv_bipush (v := (-3)) hx hb dX4_on_8 (by decide) ?_
  refine xw_Vi (As := [.int (-3)]) (rest := []) (Wn := fun u => [(a0, .inr (3, [.ref a1, .ref a2, .ref a3, .ref a4, .int gg.hs, .ref a5, .ref a6, .ref a7, .int (nI gg.L), .int (nI gg.M), .int mm.pl, .ref a8, .int mm.sd])), (a1, .inl (cI, 49, .inl gg.r)), (a2, .inl (cI, 49, .inl mm.m)), (a3, .inl (cI, 49, .inl gg.im)), (a4, .inl (cI, 49, .inl mm.ws)), (a5, .inl (cI, 96, .inl gg.lt)), (a6, .inl (cI, 16, .inl gg.rw)), (a7, .inl (cI, 7, .inl (upd gg.rf (cN (-3)) (gg.rf (cN (-3)) + 1)))), (a8, .inl (cI, 3, .inl mm.nb))]) (Wr := [(a1, .inl (cI, 49, .inl gg.r)), (a2, .inl (cI, 49, .inl mm.m)), (a3, .inl (cI, 49, .inl gg.im)), (a4, .inl (cI, 49, .inl mm.ws)), (a5, .inl (cI, 96, .inl gg.lt)), (a6, .inl (cI, 16, .inl gg.rw)), (a8, .inl (cI, 3, .inl mm.nb))]) ⟨hx, hb, hml, hown, hts⟩ (kX4_no l D cI H.size a0 a1 a2 a3 a4 a5 a6 a7 a8 gg mm (-3) okc_3) (cwV 1 hts gX4_on_X4_no rfl rfl rfl hv_X4_no ⟨Nat.le_of_ble_eq_true rfl, Nat.le_of_ble_eq_true rfl⟩) hK hP hD hS hA [0, 7] [1, 2, 3, 4, 5, 6, 8] [7, 0, 1, 2, 3, 4, 5, 8, 6] rfl rfl (by decide) (by decide) (by decide) (by decide) (fun u => rfl) 0 rfl rfl rfl hl.1 rfl (Nat.le_of_ble_eq_true rfl) dX4_on_10 ⟨Nat.zero_le _, Nat.zero_le _⟩ (fun r_3 u_3 H locs hw_3 hP hD hS => ?_)
  exact hret 13 _ r_3 ((gg.n, gg.r, gg.m, gg.im, gg.hs, gg.lt, gg.L, gg.rw, gg.M, (upd gg.rf (cN (-3)) (gg.rf (cN (-3)) + 1))), mm) _ _ dX4_on_13 (by first | (simp [sp_on, rfz, us, c_1, hw_3]; done) | (simp [sp_on, rfz, us, c_1, hw_3, isI]; done) | (simp [sp_on, rfz, us, c_1, hw_3, wrB, lackF]; done)) hP hD hS


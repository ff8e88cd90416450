theorem hs_J6_bitCount_0f7a4 : yJ6_bitCount_0f7a4.cls ≠ "java/lang/invoke/MethodHandle" ∧ yJ6_bitCount_0f7a4.cls ≠ "java/lang/invoke/VarHandle" ∧ (parseMethodDescriptor yJ6_bitCount_0f7a4.desc).map (fun d => d.parameters.length) = some 1 := by decide +kernel
theorem hs_X2_becomes : yX2_becomes.cls ≠ "java/lang/invoke/MethodHandle" ∧ yX2_becomes.cls ≠ "java/lang/invoke/VarHandle" ∧ (parseMethodDescriptor yX2_becomes.desc).map (fun d => d.parameters.length) = some 1 := by decide +kernel
theorem hv_X2_becomes : yX2_becomes.cls = RX2 ∧ yX2_becomes.cls ≠ "java/lang/invoke/MethodHandle" ∧ yX2_becomes.cls ≠ "java/lang/invoke/VarHandle" ∧ (parseMethodDescriptor yX2_becomes.desc).map (fun d => d.parameters.length) = some 1 := ⟨rfl, hs_X2_becomes⟩
theorem hs_X2_wear : yX2_wear.cls ≠ "java/lang/invoke/MethodHandle" ∧ yX2_wear.cls ≠ "java/lang/invoke/VarHandle" ∧ (parseMethodDescriptor yX2_wear.desc).map (fun d => d.parameters.length) = some 1 := by decide +kernel
theorem hv_X2_wear : yX2_wear.cls = RX2 ∧ yX2_wear.cls ≠ "java/lang/invoke/MethodHandle" ∧ yX2_wear.cls ≠ "java/lang/invoke/VarHandle" ∧ (parseMethodDescriptor yX2_wear.desc).map (fun d => d.parameters.length) = some 1 := ⟨rfl, hs_X2_wear⟩
theorem hs_X2_bringDown : yX2_bringDown.cls ≠ "java/lang/invoke/MethodHandle" ∧ yX2_bringDown.cls ≠ "java/lang/invoke/VarHandle" ∧ (parseMethodDescriptor yX2_bringDown.desc).map (fun d => d.parameters.length) = some 1 := by decide +kernel
theorem hv_X2_bringDown : yX2_bringDown.cls = RX2 ∧ yX2_bringDown.cls ≠ "java/lang/invoke/MethodHandle" ∧ yX2_bringDown.cls ≠ "java/lang/invoke/VarHandle" ∧ (parseMethodDescriptor yX2_bringDown.desc).map (fun d => d.parameters.length) = some 1 := ⟨rfl, hs_X2_bringDown⟩
theorem hs_X2_turnOver : yX2_turnOver.cls ≠ "java/lang/invoke/MethodHandle" ∧ yX2_turnOver.cls ≠ "java/lang/invoke/VarHandle" ∧ (parseMethodDescriptor yX2_turnOver.desc).map (fun d => d.parameters.length) = some 1 := by decide +kernel
theorem hv_X2_turnOver : yX2_turnOver.cls = RX2 ∧ yX2_turnOver.cls ≠ "java/lang/invoke/MethodHandle" ∧ yX2_turnOver.cls ≠ "java/lang/invoke/VarHandle" ∧ (parseMethodDescriptor yX2_turnOver.desc).map (fun d => d.parameters.length) = some 1 := ⟨rfl, hs_X2_turnOver⟩
theorem hs_X2_leaveOut : yX2_leaveOut.cls ≠ "java/lang/invoke/MethodHandle" ∧ yX2_leaveOut.cls ≠ "java/lang/invoke/VarHandle" ∧ (parseMethodDescriptor yX2_leaveOut.desc).map (fun d => d.parameters.length) = some 1 := by decide +kernel
theorem hv_X2_leaveOut : yX2_leaveOut.cls = RX2 ∧ yX2_leaveOut.cls ≠ "java/lang/invoke/MethodHandle" ∧ yX2_leaveOut.cls ≠ "java/lang/invoke/VarHandle" ∧ (parseMethodDescriptor yX2_leaveOut.desc).map (fun d => d.parameters.length) = some 1 := ⟨rfl, hs_X2_leaveOut⟩
theorem hs_X2_sayAbout : yX2_sayAbout.cls ≠ "java/lang/invoke/MethodHandle" ∧ yX2_sayAbout.cls ≠ "java/lang/invoke/VarHandle" ∧ (parseMethodDescriptor yX2_sayAbout.desc).map (fun d => d.parameters.length) = some 2 := by decide +kernel
theorem hv_X2_sayAbout : yX2_sayAbout.cls = RX2 ∧ yX2_sayAbout.cls ≠ "java/lang/invoke/MethodHandle" ∧ yX2_sayAbout.cls ≠ "java/lang/invoke/VarHandle" ∧ (parseMethodDescriptor yX2_sayAbout.desc).map (fun d => d.parameters.length) = some 2 := ⟨rfl, hs_X2_sayAbout⟩
set_option maxHeartbeats 4000000 in
set_option maxRecDepth 100000 in
theorem kJ6_bitCount_0f7a4 (l : Launch) (D : va_G) (cI : ClassId) (p0 : Int32) : Met l yJ6_bitCount_0f7a4 wsJ6_bitCount_0f7a4 ({ frames := 0, cells := 0, slots := 0, locals := 0 }) (PRO D cI [.int p0] []) (vp_Si (fun v => v = bcF p0)) 0 0 (fun _ => False) := by
  refine st_roi (cc := cJ6_bitCount_0f7a4) (maxL := 1) (rt := .int) (by decide) rfl (Nat.le_of_ble_eq_true rfl) (fun _ _ => rfl) ?_
  intro p e s m below meth c Q ls hx hb hml hts hown hP hK hl hret
  replace hown : s.vm.findClass RJ6 = some m.cls := hown
  replace hl : lv_has ls 1 [(0, .int p0)] := hl
  have hc_265 := hts (.constant RJ6 265 (1431655765)) (List.mem_of_getElem? (i := 1) rfl)
  have hc_266 := hts (.constant RJ6 266 (858993459)) (List.mem_of_getElem? (i := 2) rfl)
  have hc_267 := hts (.constant RJ6 267 (252645135)) (List.mem_of_getElem? (i := 3) rfl)
  refine lv_iload_n hx hb dJ6_bitCount_0f7a4_0 rfl (lv_at hl 0 rfl) ?_
  refine lv_iload_n hx hb dJ6_bitCount_0f7a4_1 rfl (lv_at hl 0 rfl) ?_
  refine lv_iconst (v := 1) hx hb dJ6_bitCount_0f7a4_2 (by decide) ?_
  refine lv_iushr (v := (p0.toUInt32 >>> ((1 : Int32).toUInt32 &&& Int32.toUInt32 31)).toInt32) hx hb dJ6_bitCount_0f7a4_3 rfl ?_
  refine lv_ldcw (v := 1431655765) hx hb hown hc_265 dJ6_bitCount_0f7a4_4 ?_
  refine lv_iand hx hb dJ6_bitCount_0f7a4_7 ?_
  refine lv_isub hx hb dJ6_bitCount_0f7a4_8 ?_
  refine lv_topi (fun x_1 ex_1 => ?_)
  refine lv_istore_n (lv' := [(0, .int x_1)]) hx hb dJ6_bitCount_0f7a4_9 rfl hl (by decide) rfl (fun ls hl => ?_)
  refine lv_iload_n hx hb dJ6_bitCount_0f7a4_10 rfl (lv_at hl 0 rfl) ?_
  refine lv_ldcw (v := 858993459) hx hb hown hc_266 dJ6_bitCount_0f7a4_11 ?_
  refine lv_iand hx hb dJ6_bitCount_0f7a4_14 ?_
  refine lv_iload_n hx hb dJ6_bitCount_0f7a4_15 rfl (lv_at hl 0 rfl) ?_
  refine lv_iconst (v := 2) hx hb dJ6_bitCount_0f7a4_16 (by decide) ?_
  refine lv_iushr (v := (x_1.toUInt32 >>> ((2 : Int32).toUInt32 &&& Int32.toUInt32 31)).toInt32) hx hb dJ6_bitCount_0f7a4_17 rfl ?_
  refine lv_ldcw (v := 858993459) hx hb hown hc_266 dJ6_bitCount_0f7a4_18 ?_
  refine lv_iand hx hb dJ6_bitCount_0f7a4_21 ?_
  refine lv_iadd hx hb dJ6_bitCount_0f7a4_22 ?_
  refine lv_topi (fun x_2 ex_2 => ?_)
  refine lv_istore_n (lv' := [(0, .int x_2)]) hx hb dJ6_bitCount_0f7a4_23 rfl hl (by decide) rfl (fun ls hl => ?_)
  refine lv_iload_n hx hb dJ6_bitCount_0f7a4_24 rfl (lv_at hl 0 rfl) ?_
  refine lv_iload_n hx hb dJ6_bitCount_0f7a4_25 rfl (lv_at hl 0 rfl) ?_
  refine lv_iconst (v := 4) hx hb dJ6_bitCount_0f7a4_26 (by decide) ?_
  refine lv_iushr (v := (x_2.toUInt32 >>> ((4 : Int32).toUInt32 &&& Int32.toUInt32 31)).toInt32) hx hb dJ6_bitCount_0f7a4_27 rfl ?_
  refine lv_iadd hx hb dJ6_bitCount_0f7a4_28 ?_
  refine lv_ldcw (v := 252645135) hx hb hown hc_267 dJ6_bitCount_0f7a4_29 ?_
  refine lv_iand hx hb dJ6_bitCount_0f7a4_32 ?_
  refine lv_topi (fun x_3 ex_3 => ?_)
  refine lv_istore_n (lv' := [(0, .int x_3)]) hx hb dJ6_bitCount_0f7a4_33 rfl hl (by decide) rfl (fun ls hl => ?_)
  refine lv_iload_n hx hb dJ6_bitCount_0f7a4_34 rfl (lv_at hl 0 rfl) ?_
  refine lv_iload_n hx hb dJ6_bitCount_0f7a4_35 rfl (lv_at hl 0 rfl) ?_
  refine lv_bipush (v := 8) hx hb dJ6_bitCount_0f7a4_36 (by decide) ?_
  refine lv_iushr (v := (x_3.toUInt32 >>> ((8 : Int32).toUInt32 &&& Int32.toUInt32 31)).toInt32) hx hb dJ6_bitCount_0f7a4_38 rfl ?_
  refine lv_iadd hx hb dJ6_bitCount_0f7a4_39 ?_
  refine lv_topi (fun x_4 ex_4 => ?_)
  refine lv_istore_n (lv' := [(0, .int x_4)]) hx hb dJ6_bitCount_0f7a4_40 rfl hl (by decide) rfl (fun ls hl => ?_)
  refine lv_iload_n hx hb dJ6_bitCount_0f7a4_41 rfl (lv_at hl 0 rfl) ?_
  refine lv_iload_n hx hb dJ6_bitCount_0f7a4_42 rfl (lv_at hl 0 rfl) ?_
  refine lv_bipush (v := 16) hx hb dJ6_bitCount_0f7a4_43 (by decide) ?_
  refine lv_iushr (v := (x_4.toUInt32 >>> ((16 : Int32).toUInt32 &&& Int32.toUInt32 31)).toInt32) hx hb dJ6_bitCount_0f7a4_45 rfl ?_
  refine lv_iadd hx hb dJ6_bitCount_0f7a4_46 ?_
  refine lv_topi (fun x_5 ex_5 => ?_)
  refine lv_istore_n (lv' := [(0, .int x_5)]) hx hb dJ6_bitCount_0f7a4_47 rfl hl (by decide) rfl (fun ls hl => ?_)
  refine lv_iload_n hx hb dJ6_bitCount_0f7a4_48 rfl (lv_at hl 0 rfl) ?_
  refine lv_bipush (v := 63) hx hb dJ6_bitCount_0f7a4_49 (by decide) ?_
  refine lv_iand hx hb dJ6_bitCount_0f7a4_51 ?_
  exact hret 52 _ (x_5 &&& 63) dJ6_bitCount_0f7a4_52 (by clear hret hP hK hts hown hx hb hml hl hc_265 hc_266 hc_267; subst_vars; rfl)

set_option maxHeartbeats 4000000 in
set_option maxRecDepth 100000 in
theorem kX2_becomes (l : Launch) (D : va_G) (cI : ClassId) (sz : Nat) (h hk hf hw ht : Nat) (u : TK) (h2 hk2 hf2 hw2 ht2 : Nat) (u1 : TK) : Met l yX2_becomes wsX2_becomes ({ frames := 1, cells := 0, slots := 0, locals := 40 }) (PRW D cI [.ref h, .ref h2] [(h, .inr (1, [.int u.sz, .int u.dy, .int u.rb, .int u.ins, .int u.fo, .int u.fl, .int u.uw, .int u.lo, .ref hk, .ref hf, .ref hw, .ref ht])), (hk, .inl (cI, 9, .inl u.kd)), (hf, .inl (cI, 9, .inl u.fg)), (hw, .inl (cI, 9, .inl u.wn)), (ht, .inl (cI, 4, .inl u.tl)), (h2, .inr (1, [.int u1.sz, .int u1.dy, .int u1.rb, .int u1.ins, .int u1.fo, .int u1.fl, .int u1.uw, .int u1.lo, .ref hk2, .ref hf2, .ref hw2, .ref ht2])), (hk2, .inl (cI, 9, .inl u1.kd)), (hf2, .inl (cI, 9, .inl u1.fg)), (hw2, .inl (cI, 9, .inl u1.wn)), (ht2, .inl (cI, 4, .inl u1.tl))] sz) (va_Qv (S := Unit) (fun _ => True) (BRW D [(h, .inr (1, [.int u.sz, .int u.dy, .int u.rb, .int u.ins, .int u.fo, .int u.fl, .int u.uw, .int u.lo, .ref hk, .ref hf, .ref hw, .ref ht])), (hk, .inl (cI, 9, .inl u.kd)), (hf, .inl (cI, 9, .inl u.fg)), (hw, .inl (cI, 9, .inl u.wn)), (ht, .inl (cI, 4, .inl u.tl)), (h2, .inr (1, [.int u1.sz, .int u1.dy, .int u1.rb, .int u1.ins, .int u1.fo, .int u1.fl, .int u1.uw, .int u1.lo, .ref hk2, .ref hf2, .ref hw2, .ref ht2])), (hk2, .inl (cI, 9, .inl u1.kd)), (hf2, .inl (cI, 9, .inl u1.fg)), (hw2, .inl (cI, 9, .inl u1.wn)), (ht2, .inl (cI, 4, .inl u1.tl))] sz (fun u => [(h, .inr (1, [.int u1.sz, .int u1.dy, .int u1.rb, .int u1.ins, .int 0, .int 0, .int 0, .int 0, .ref hk, .ref hf, .ref hw, .ref ht])), (hk, .inl (cI, 9, .inl u1.kd)), (hf, .inl (cI, 9, .inl u1.fg)), (hw, .inl (cI, 9, .inl u1.wn)), (ht, .inl (cI, 4, .inl u1.tl)), (h2, .inr (1, [.int u1.sz, .int u1.dy, .int u1.rb, .int u1.ins, .int u1.fo, .int u1.fl, .int u1.uw, .int u1.lo, .ref hk2, .ref hf2, .ref hw2, .ref ht2])), (hk2, .inl (cI, 9, .inl u1.kd)), (hf2, .inl (cI, 9, .inl u1.fg)), (hw2, .inl (cI, 9, .inl u1.wn)), (ht2, .inl (cI, 4, .inl u1.tl))])) (va_A [(h, .inr (1, [.int u.sz, .int u.dy, .int u.rb, .int u.ins, .int u.fo, .int u.fl, .int u.uw, .int u.lo, .ref hk, .ref hf, .ref hw, .ref ht])), (hk, .inl (cI, 9, .inl u.kd)), (hf, .inl (cI, 9, .inl u.fg)), (hw, .inl (cI, 9, .inl u.wn)), (ht, .inl (cI, 4, .inl u.tl)), (h2, .inr (1, [.int u1.sz, .int u1.dy, .int u1.rb, .int u1.ins, .int u1.fo, .int u1.fl, .int u1.uw, .int u1.lo, .ref hk2, .ref hf2, .ref hw2, .ref ht2])), (hk2, .inl (cI, 9, .inl u1.kd)), (hf2, .inl (cI, 9, .inl u1.fg)), (hw2, .inl (cI, 9, .inl u1.wn)), (ht2, .inl (cI, 4, .inl u1.tl))] sz)) 0 0 (va_A [(h, .inr (1, [.int u.sz, .int u.dy, .int u.rb, .int u.ins, .int u.fo, .int u.fl, .int u.uw, .int u.lo, .ref hk, .ref hf, .ref hw, .ref ht])), (hk, .inl (cI, 9, .inl u.kd)), (hf, .inl (cI, 9, .inl u.fg)), (hw, .inl (cI, 9, .inl u.wn)), (ht, .inl (cI, 4, .inl u.tl)), (h2, .inr (1, [.int u1.sz, .int u1.dy, .int u1.rb, .int u1.ins, .int u1.fo, .int u1.fl, .int u1.uw, .int u1.lo, .ref hk2, .ref hf2, .ref hw2, .ref ht2])), (hk2, .inl (cI, 9, .inl u1.kd)), (hf2, .inl (cI, 9, .inl u1.fg)), (hw2, .inl (cI, 9, .inl u1.wn)), (ht2, .inl (cI, 4, .inl u1.tl))] sz) := by
  refine st_rwv (cc := cX2_becomes) (maxL := 2) (by decide) rfl (Nat.le_of_ble_eq_true rfl) ?_
  intro p e s m below meth c Q ls A hx hb hml hts hown hP hK hD hA hS hl hret
  replace hown : s.vm.findClass RX2 = some m.cls := hown
  replace hl : lv_has ls 2 [(0, .ref h), (1, .ref h2)] := hl
  obtain ⟨H, hH⟩ : ∃ z, z = s.heap := ⟨_, rfl⟩
  obtain ⟨locs, hlo⟩ : ∃ z : List Loc, z = [] := ⟨_, rfl⟩
  replace hP : va_P D vwCl [(h, .inr (1, [.int u.sz, .int u.dy, .int u.rb, .int u.ins, .int u.fo, .int u.fl, .int u.uw, .int u.lo, .ref hk, .ref hf, .ref hw, .ref ht])), (hk, .inl (cI, 9, .inl u.kd)), (hf, .inl (cI, 9, .inl u.fg)), (hw, .inl (cI, 9, .inl u.wn)), (ht, .inl (cI, 4, .inl u.tl)), (h2, .inr (1, [.int u1.sz, .int u1.dy, .int u1.rb, .int u1.ins, .int u1.fo, .int u1.fl, .int u1.uw, .int u1.lo, .ref hk2, .ref hf2, .ref hw2, .ref ht2])), (hk2, .inl (cI, 9, .inl u1.kd)), (hf2, .inl (cI, 9, .inl u1.fg)), (hw2, .inl (cI, 9, .inl u1.wn)), (ht2, .inl (cI, 4, .inl u1.tl))] H := by rw [hH]; exact hP
  replace hS : va_S A s.heap H locs := by rw [hH, hlo]; exact hS
  show W p l e ({ frames := 1, cells := 0, slots := 0, locals := 40 }) s m [.ref h, .ref h2].toArray below meth c s.heap [] 0 0 Q (F0 m 0 ls [])
  rw [← hlo]
  suffices hgo : W p l e ({ frames := 1, cells := 0, slots := 0, locals := 40 }) s m [.ref h, .ref h2].toArray below meth c H locs 0 0 Q (F0 m 0 ls []) by rw [hH] at hgo; exact hgo
  clear hH hlo
  have hi_X2 : ∀ w ∈ wsX20, w ∈ wsX2_becomes := fun w h => List.mem_cons_of_mem _ (List.mem_append_right _ (h))
  have hk_9 := hts (.fieldLink RX2 9 "NestsOfTalk$Talk" "size" "I") (List.mem_of_getElem? (i := 1) rfl)
  have hk_15 := hts (.fieldLink RX2 15 "NestsOfTalk$Talk" "day" "I") (List.mem_of_getElem? (i := 2) rfl)
  have hk_18 := hts (.fieldLink RX2 18 "NestsOfTalk$Talk" "robbed" "I") (List.mem_of_getElem? (i := 3) rfl)
  have hk_21 := hts (.fieldLink RX2 21 "NestsOfTalk$Talk" "inside" "I") (List.mem_of_getElem? (i := 4) rfl)
  have hk_24 := hts (.fieldLink RX2 24 "NestsOfTalk$Talk" "fallenOf" "I") (List.mem_of_getElem? (i := 5) rfl)
  have hk_27 := hts (.fieldLink RX2 27 "NestsOfTalk$Talk" "fallen" "I") (List.mem_of_getElem? (i := 6) rfl)
  have hk_30 := hts (.fieldLink RX2 30 "NestsOfTalk$Talk" "unwearing" "I") (List.mem_of_getElem? (i := 7) rfl)
  have hk_33 := hts (.fieldLink RX2 33 "NestsOfTalk$Talk" "leftOut" "I") (List.mem_of_getElem? (i := 8) rfl)
  have hk_36 := hts (.fieldLink RX2 36 "NestsOfTalk$Talk" "kind" "[I") (List.mem_of_getElem? (i := 9) rfl)
  have hm_49 := hts (.methodLink RX2 49 arraycopyName) (List.mem_of_getElem? (i := 10) rfl)
  have hcn := hts (.native arraycopyName) (List.mem_of_getElem? (i := 11) rfl)
  have hcs := hts (.static arraycopyName) (List.mem_of_getElem? (i := 12) rfl)
  have hci := hts (.initialized "java/lang/System") (List.mem_of_getElem? (i := 13) rfl)
  have hk_40 := hts (.fieldLink RX2 40 "NestsOfTalk$Talk" "figure" "[I") (List.mem_of_getElem? (i := 14) rfl)
  have hk_43 := hts (.fieldLink RX2 43 "NestsOfTalk$Talk" "worn" "[I") (List.mem_of_getElem? (i := 15) rfl)
  have hk_46 := hts (.fieldLink RX2 46 "NestsOfTalk$Talk" "told" "[I") (List.mem_of_getElem? (i := 16) rfl)
  refine lv_aload_n hx hb dX2_becomes_0 rfl (lv_at hl 0 rfl) ?_
  refine lv_aload_n hx hb dX2_becomes_1 rfl (lv_at hl 1 rfl) ?_
  refine va_get (D := D) (ci := 1) (v := .int u1.sz) (C := RX2) (T := TX2) (N := 12) hx hb hts hi_X2 hown hK.1 hP 5 rfl rfl 0 (by decide) hk_9 (fun _ h9 => h9) rfl dX2_becomes_2 ?_
  refine va_put (D := D) (ci := 1) (v := .int u1.sz) (ty := .int) (C := RX2) (T := TX2) (N := 12) hx hb hts hi_X2 tyX2 tyX2_ok nmX2 hown hK.1 hP hD hS 0 rfl rfl 0 (by decide) hk_9 (fun _ h9 => h9) rfl pd_I rfl rfl (Nat.le_of_ble_eq_true rfl) dX2_becomes_5 (fun H locs hP hD hS => ?_)
  have hP : va_P D vwCl [(h, .inr (1, [.int u1.sz, .int u.dy, .int u.rb, .int u.ins, .int u.fo, .int u.fl, .int u.uw, .int u.lo, .ref hk, .ref hf, .ref hw, .ref ht])), (hk, .inl (cI, 9, .inl u.kd)), (hf, .inl (cI, 9, .inl u.fg)), (hw, .inl (cI, 9, .inl u.wn)), (ht, .inl (cI, 4, .inl u.tl)), (h2, .inr (1, [.int u1.sz, .int u1.dy, .int u1.rb, .int u1.ins, .int u1.fo, .int u1.fl, .int u1.uw, .int u1.lo, .ref hk2, .ref hf2, .ref hw2, .ref ht2])), (hk2, .inl (cI, 9, .inl u1.kd)), (hf2, .inl (cI, 9, .inl u1.fg)), (hw2, .inl (cI, 9, .inl u1.wn)), (ht2, .inl (cI, 4, .inl u1.tl))] H := hP
  have hD : va_D A [(h, .inr (1, [.int u1.sz, .int u.dy, .int u.rb, .int u.ins, .int u.fo, .int u.fl, .int u.uw, .int u.lo, .ref hk, .ref hf, .ref hw, .ref ht])), (hk, .inl (cI, 9, .inl u.kd)), (hf, .inl (cI, 9, .inl u.fg)), (hw, .inl (cI, 9, .inl u.wn)), (ht, .inl (cI, 4, .inl u.tl)), (h2, .inr (1, [.int u1.sz, .int u1.dy, .int u1.rb, .int u1.ins, .int u1.fo, .int u1.fl, .int u1.uw, .int u1.lo, .ref hk2, .ref hf2, .ref hw2, .ref ht2])), (hk2, .inl (cI, 9, .inl u1.kd)), (hf2, .inl (cI, 9, .inl u1.fg)), (hw2, .inl (cI, 9, .inl u1.wn)), (ht2, .inl (cI, 4, .inl u1.tl))] := hD
  refine lv_aload_n hx hb dX2_becomes_8 rfl (lv_at hl 0 rfl) ?_
  refine lv_aload_n hx hb dX2_becomes_9 rfl (lv_at hl 1 rfl) ?_
  refine va_get (D := D) (ci := 1) (v := .int u1.dy) (C := RX2) (T := TX2) (N := 12) hx hb hts hi_X2 hown hK.1 hP 5 rfl rfl 1 (by decide) hk_15 (fun _ h9 => h9) rfl dX2_becomes_10 ?_
  refine va_put (D := D) (ci := 1) (v := .int u1.dy) (ty := .int) (C := RX2) (T := TX2) (N := 12) hx hb hts hi_X2 tyX2 tyX2_ok nmX2 hown hK.1 hP hD hS 0 rfl rfl 1 (by decide) hk_15 (fun _ h9 => h9) rfl pd_I rfl rfl (Nat.le_of_ble_eq_true rfl) dX2_becomes_13 (fun H locs hP hD hS => ?_)
  have hP : va_P D vwCl [(h, .inr (1, [.int u1.sz, .int u1.dy, .int u.rb, .int u.ins, .int u.fo, .int u.fl, .int u.uw, .int u.lo, .ref hk, .ref hf, .ref hw, .ref ht])), (hk, .inl (cI, 9, .inl u.kd)), (hf, .inl (cI, 9, .inl u.fg)), (hw, .inl (cI, 9, .inl u.wn)), (ht, .inl (cI, 4, .inl u.tl)), (h2, .inr (1, [.int u1.sz, .int u1.dy, .int u1.rb, .int u1.ins, .int u1.fo, .int u1.fl, .int u1.uw, .int u1.lo, .ref hk2, .ref hf2, .ref hw2, .ref ht2])), (hk2, .inl (cI, 9, .inl u1.kd)), (hf2, .inl (cI, 9, .inl u1.fg)), (hw2, .inl (cI, 9, .inl u1.wn)), (ht2, .inl (cI, 4, .inl u1.tl))] H := hP
  have hD : va_D A [(h, .inr (1, [.int u1.sz, .int u1.dy, .int u.rb, .int u.ins, .int u.fo, .int u.fl, .int u.uw, .int u.lo, .ref hk, .ref hf, .ref hw, .ref ht])), (hk, .inl (cI, 9, .inl u.kd)), (hf, .inl (cI, 9, .inl u.fg)), (hw, .inl (cI, 9, .inl u.wn)), (ht, .inl (cI, 4, .inl u.tl)), (h2, .inr (1, [.int u1.sz, .int u1.dy, .int u1.rb, .int u1.ins, .int u1.fo, .int u1.fl, .int u1.uw, .int u1.lo, .ref hk2, .ref hf2, .ref hw2, .ref ht2])), (hk2, .inl (cI, 9, .inl u1.kd)), (hf2, .inl (cI, 9, .inl u1.fg)), (hw2, .inl (cI, 9, .inl u1.wn)), (ht2, .inl (cI, 4, .inl u1.tl))] := hD
  refine lv_aload_n hx hb dX2_becomes_16 rfl (lv_at hl 0 rfl) ?_
  refine lv_aload_n hx hb dX2_becomes_17 rfl (lv_at hl 1 rfl) ?_
  refine va_get (D := D) (ci := 1) (v := .int u1.rb) (C := RX2) (T := TX2) (N := 12) hx hb hts hi_X2 hown hK.1 hP 5 rfl rfl 2 (by decide) hk_18 (fun _ h9 => h9) rfl dX2_becomes_18 ?_
  refine va_put (D := D) (ci := 1) (v := .int u1.rb) (ty := .int) (C := RX2) (T := TX2) (N := 12) hx hb hts hi_X2 tyX2 tyX2_ok nmX2 hown hK.1 hP hD hS 0 rfl rfl 2 (by decide) hk_18 (fun _ h9 => h9) rfl pd_I rfl rfl (Nat.le_of_ble_eq_true rfl) dX2_becomes_21 (fun H locs hP hD hS => ?_)
  have hP : va_P D vwCl [(h, .inr (1, [.int u1.sz, .int u1.dy, .int u1.rb, .int u.ins, .int u.fo, .int u.fl, .int u.uw, .int u.lo, .ref hk, .ref hf, .ref hw, .ref ht])), (hk, .inl (cI, 9, .inl u.kd)), (hf, .inl (cI, 9, .inl u.fg)), (hw, .inl (cI, 9, .inl u.wn)), (ht, .inl (cI, 4, .inl u.tl)), (h2, .inr (1, [.int u1.sz, .int u1.dy, .int u1.rb, .int u1.ins, .int u1.fo, .int u1.fl, .int u1.uw, .int u1.lo, .ref hk2, .ref hf2, .ref hw2, .ref ht2])), (hk2, .inl (cI, 9, .inl u1.kd)), (hf2, .inl (cI, 9, .inl u1.fg)), (hw2, .inl (cI, 9, .inl u1.wn)), (ht2, .inl (cI, 4, .inl u1.tl))] H := hP
  have hD : va_D A [(h, .inr (1, [.int u1.sz, .int u1.dy, .int u1.rb, .int u.ins, .int u.fo, .int u.fl, .int u.uw, .int u.lo, .ref hk, .ref hf, .ref hw, .ref ht])), (hk, .inl (cI, 9, .inl u.kd)), (hf, .inl (cI, 9, .inl u.fg)), (hw, .inl (cI, 9, .inl u.wn)), (ht, .inl (cI, 4, .inl u.tl)), (h2, .inr (1, [.int u1.sz, .int u1.dy, .int u1.rb, .int u1.ins, .int u1.fo, .int u1.fl, .int u1.uw, .int u1.lo, .ref hk2, .ref hf2, .ref hw2, .ref ht2])), (hk2, .inl (cI, 9, .inl u1.kd)), (hf2, .inl (cI, 9, .inl u1.fg)), (hw2, .inl (cI, 9, .inl u1.wn)), (ht2, .inl (cI, 4, .inl u1.tl))] := hD
  refine lv_aload_n hx hb dX2_becomes_24 rfl (lv_at hl 0 rfl) ?_
  refine lv_aload_n hx hb dX2_becomes_25 rfl (lv_at hl 1 rfl) ?_
  refine va_get (D := D) (ci := 1) (v := .int u1.ins) (C := RX2) (T := TX2) (N := 12) hx hb hts hi_X2 hown hK.1 hP 5 rfl rfl 3 (by decide) hk_21 (fun _ h9 => h9) rfl dX2_becomes_26 ?_
  refine va_put (D := D) (ci := 1) (v := .int u1.ins) (ty := .int) (C := RX2) (T := TX2) (N := 12) hx hb hts hi_X2 tyX2 tyX2_ok nmX2 hown hK.1 hP hD hS 0 rfl rfl 3 (by decide) hk_21 (fun _ h9 => h9) rfl pd_I rfl rfl (Nat.le_of_ble_eq_true rfl) dX2_becomes_29 (fun H locs hP hD hS => ?_)
  have hP : va_P D vwCl [(h, .inr (1, [.int u1.sz, .int u1.dy, .int u1.rb, .int u1.ins, .int u.fo, .int u.fl, .int u.uw, .int u.lo, .ref hk, .ref hf, .ref hw, .ref ht])), (hk, .inl (cI, 9, .inl u.kd)), (hf, .inl (cI, 9, .inl u.fg)), (hw, .inl (cI, 9, .inl u.wn)), (ht, .inl (cI, 4, .inl u.tl)), (h2, .inr (1, [.int u1.sz, .int u1.dy, .int u1.rb, .int u1.ins, .int u1.fo, .int u1.fl, .int u1.uw, .int u1.lo, .ref hk2, .ref hf2, .ref hw2, .ref ht2])), (hk2, .inl (cI, 9, .inl u1.kd)), (hf2, .inl (cI, 9, .inl u1.fg)), (hw2, .inl (cI, 9, .inl u1.wn)), (ht2, .inl (cI, 4, .inl u1.tl))] H := hP
  have hD : va_D A [(h, .inr (1, [.int u1.sz, .int u1.dy, .int u1.rb, .int u1.ins, .int u.fo, .int u.fl, .int u.uw, .int u.lo, .ref hk, .ref hf, .ref hw, .ref ht])), (hk, .inl (cI, 9, .inl u.kd)), (hf, .inl (cI, 9, .inl u.fg)), (hw, .inl (cI, 9, .inl u.wn)), (ht, .inl (cI, 4, .inl u.tl)), (h2, .inr (1, [.int u1.sz, .int u1.dy, .int u1.rb, .int u1.ins, .int u1.fo, .int u1.fl, .int u1.uw, .int u1.lo, .ref hk2, .ref hf2, .ref hw2, .ref ht2])), (hk2, .inl (cI, 9, .inl u1.kd)), (hf2, .inl (cI, 9, .inl u1.fg)), (hw2, .inl (cI, 9, .inl u1.wn)), (ht2, .inl (cI, 4, .inl u1.tl))] := hD
  refine lv_aload_n hx hb dX2_becomes_32 rfl (lv_at hl 0 rfl) ?_
  refine lv_iconst (v := 0) hx hb dX2_becomes_33 (by decide) ?_
  refine va_put (D := D) (ci := 1) (v := .int 0) (ty := .int) (C := RX2) (T := TX2) (N := 12) hx hb hts hi_X2 tyX2 tyX2_ok nmX2 hown hK.1 hP hD hS 0 rfl rfl 4 (by decide) hk_24 (fun _ h9 => h9) rfl pd_I rfl rfl (Nat.le_of_ble_eq_true rfl) dX2_becomes_34 (fun H locs hP hD hS => ?_)
  have hP : va_P D vwCl [(h, .inr (1, [.int u1.sz, .int u1.dy, .int u1.rb, .int u1.ins, .int 0, .int u.fl, .int u.uw, .int u.lo, .ref hk, .ref hf, .ref hw, .ref ht])), (hk, .inl (cI, 9, .inl u.kd)), (hf, .inl (cI, 9, .inl u.fg)), (hw, .inl (cI, 9, .inl u.wn)), (ht, .inl (cI, 4, .inl u.tl)), (h2, .inr (1, [.int u1.sz, .int u1.dy, .int u1.rb, .int u1.ins, .int u1.fo, .int u1.fl, .int u1.uw, .int u1.lo, .ref hk2, .ref hf2, .ref hw2, .ref ht2])), (hk2, .inl (cI, 9, .inl u1.kd)), (hf2, .inl (cI, 9, .inl u1.fg)), (hw2, .inl (cI, 9, .inl u1.wn)), (ht2, .inl (cI, 4, .inl u1.tl))] H := hP
  have hD : va_D A [(h, .inr (1, [.int u1.sz, .int u1.dy, .int u1.rb, .int u1.ins, .int 0, .int u.fl, .int u.uw, .int u.lo, .ref hk, .ref hf, .ref hw, .ref ht])), (hk, .inl (cI, 9, .inl u.kd)), (hf, .inl (cI, 9, .inl u.fg)), (hw, .inl (cI, 9, .inl u.wn)), (ht, .inl (cI, 4, .inl u.tl)), (h2, .inr (1, [.int u1.sz, .int u1.dy, .int u1.rb, .int u1.ins, .int u1.fo, .int u1.fl, .int u1.uw, .int u1.lo, .ref hk2, .ref hf2, .ref hw2, .ref ht2])), (hk2, .inl (cI, 9, .inl u1.kd)), (hf2, .inl (cI, 9, .inl u1.fg)), (hw2, .inl (cI, 9, .inl u1.wn)), (ht2, .inl (cI, 4, .inl u1.tl))] := hD
  refine lv_aload_n hx hb dX2_becomes_37 rfl (lv_at hl 0 rfl) ?_
  refine lv_iconst (v := 0) hx hb dX2_becomes_38 (by decide) ?_
  refine va_put (D := D) (ci := 1) (v := .int 0) (ty := .int) (C := RX2) (T := TX2) (N := 12) hx hb hts hi_X2 tyX2 tyX2_ok nmX2 hown hK.1 hP hD hS 0 rfl rfl 5 (by decide) hk_27 (fun _ h9 => h9) rfl pd_I rfl rfl (Nat.le_of_ble_eq_true rfl) dX2_becomes_39 (fun H locs hP hD hS => ?_)
  have hP : va_P D vwCl [(h, .inr (1, [.int u1.sz, .int u1.dy, .int u1.rb, .int u1.ins, .int 0, .int 0, .int u.uw, .int u.lo, .ref hk, .ref hf, .ref hw, .ref ht])), (hk, .inl (cI, 9, .inl u.kd)), (hf, .inl (cI, 9, .inl u.fg)), (hw, .inl (cI, 9, .inl u.wn)), (ht, .inl (cI, 4, .inl u.tl)), (h2, .inr (1, [.int u1.sz, .int u1.dy, .int u1.rb, .int u1.ins, .int u1.fo, .int u1.fl, .int u1.uw, .int u1.lo, .ref hk2, .ref hf2, .ref hw2, .ref ht2])), (hk2, .inl (cI, 9, .inl u1.kd)), (hf2, .inl (cI, 9, .inl u1.fg)), (hw2, .inl (cI, 9, .inl u1.wn)), (ht2, .inl (cI, 4, .inl u1.tl))] H := hP
  have hD : va_D A [(h, .inr (1, [.int u1.sz, .int u1.dy, .int u1.rb, .int u1.ins, .int 0, .int 0, .int u.uw, .int u.lo, .ref hk, .ref hf, .ref hw, .ref ht])), (hk, .inl (cI, 9, .inl u.kd)), (hf, .inl (cI, 9, .inl u.fg)), (hw, .inl (cI, 9, .inl u.wn)), (ht, .inl (cI, 4, .inl u.tl)), (h2, .inr (1, [.int u1.sz, .int u1.dy, .int u1.rb, .int u1.ins, .int u1.fo, .int u1.fl, .int u1.uw, .int u1.lo, .ref hk2, .ref hf2, .ref hw2, .ref ht2])), (hk2, .inl (cI, 9, .inl u1.kd)), (hf2, .inl (cI, 9, .inl u1.fg)), (hw2, .inl (cI, 9, .inl u1.wn)), (ht2, .inl (cI, 4, .inl u1.tl))] := hD
  refine lv_aload_n hx hb dX2_becomes_42 rfl (lv_at hl 0 rfl) ?_
  refine lv_iconst (v := 0) hx hb dX2_becomes_43 (by decide) ?_
  refine va_put (D := D) (ci := 1) (v := .int 0) (ty := .int) (C := RX2) (T := TX2) (N := 12) hx hb hts hi_X2 tyX2 tyX2_ok nmX2 hown hK.1 hP hD hS 0 rfl rfl 6 (by decide) hk_30 (fun _ h9 => h9) rfl pd_I rfl rfl (Nat.le_of_ble_eq_true rfl) dX2_becomes_44 (fun H locs hP hD hS => ?_)
  have hP : va_P D vwCl [(h, .inr (1, [.int u1.sz, .int u1.dy, .int u1.rb, .int u1.ins, .int 0, .int 0, .int 0, .int u.lo, .ref hk, .ref hf, .ref hw, .ref ht])), (hk, .inl (cI, 9, .inl u.kd)), (hf, .inl (cI, 9, .inl u.fg)), (hw, .inl (cI, 9, .inl u.wn)), (ht, .inl (cI, 4, .inl u.tl)), (h2, .inr (1, [.int u1.sz, .int u1.dy, .int u1.rb, .int u1.ins, .int u1.fo, .int u1.fl, .int u1.uw, .int u1.lo, .ref hk2, .ref hf2, .ref hw2, .ref ht2])), (hk2, .inl (cI, 9, .inl u1.kd)), (hf2, .inl (cI, 9, .inl u1.fg)), (hw2, .inl (cI, 9, .inl u1.wn)), (ht2, .inl (cI, 4, .inl u1.tl))] H := hP
  have hD : va_D A [(h, .inr (1, [.int u1.sz, .int u1.dy, .int u1.rb, .int u1.ins, .int 0, .int 0, .int 0, .int u.lo, .ref hk, .ref hf, .ref hw, .ref ht])), (hk, .inl (cI, 9, .inl u.kd)), (hf, .inl (cI, 9, .inl u.fg)), (hw, .inl (cI, 9, .inl u.wn)), (ht, .inl (cI, 4, .inl u.tl)), (h2, .inr (1, [.int u1.sz, .int u1.dy, .int u1.rb, .int u1.ins, .int u1.fo, .int u1.fl, .int u1.uw, .int u1.lo, .ref hk2, .ref hf2, .ref hw2, .ref ht2])), (hk2, .inl (cI, 9, .inl u1.kd)), (hf2, .inl (cI, 9, .inl u1.fg)), (hw2, .inl (cI, 9, .inl u1.wn)), (ht2, .inl (cI, 4, .inl u1.tl))] := hD
  refine lv_aload_n hx hb dX2_becomes_47 rfl (lv_at hl 0 rfl) ?_
  refine lv_iconst (v := 0) hx hb dX2_becomes_48 (by decide) ?_
  refine va_put (D := D) (ci := 1) (v := .int 0) (ty := .int) (C := RX2) (T := TX2) (N := 12) hx hb hts hi_X2 tyX2 tyX2_ok nmX2 hown hK.1 hP hD hS 0 rfl rfl 7 (by decide) hk_33 (fun _ h9 => h9) rfl pd_I rfl rfl (Nat.le_of_ble_eq_true rfl) dX2_becomes_49 (fun H locs hP hD hS => ?_)
  have hP : va_P D vwCl [(h, .inr (1, [.int u1.sz, .int u1.dy, .int u1.rb, .int u1.ins, .int 0, .int 0, .int 0, .int 0, .ref hk, .ref hf, .ref hw, .ref ht])), (hk, .inl (cI, 9, .inl u.kd)), (hf, .inl (cI, 9, .inl u.fg)), (hw, .inl (cI, 9, .inl u.wn)), (ht, .inl (cI, 4, .inl u.tl)), (h2, .inr (1, [.int u1.sz, .int u1.dy, .int u1.rb, .int u1.ins, .int u1.fo, .int u1.fl, .int u1.uw, .int u1.lo, .ref hk2, .ref hf2, .ref hw2, .ref ht2])), (hk2, .inl (cI, 9, .inl u1.kd)), (hf2, .inl (cI, 9, .inl u1.fg)), (hw2, .inl (cI, 9, .inl u1.wn)), (ht2, .inl (cI, 4, .inl u1.tl))] H := hP
  have hD : va_D A [(h, .inr (1, [.int u1.sz, .int u1.dy, .int u1.rb, .int u1.ins, .int 0, .int 0, .int 0, .int 0, .ref hk, .ref hf, .ref hw, .ref ht])), (hk, .inl (cI, 9, .inl u.kd)), (hf, .inl (cI, 9, .inl u.fg)), (hw, .inl (cI, 9, .inl u.wn)), (ht, .inl (cI, 4, .inl u.tl)), (h2, .inr (1, [.int u1.sz, .int u1.dy, .int u1.rb, .int u1.ins, .int u1.fo, .int u1.fl, .int u1.uw, .int u1.lo, .ref hk2, .ref hf2, .ref hw2, .ref ht2])), (hk2, .inl (cI, 9, .inl u1.kd)), (hf2, .inl (cI, 9, .inl u1.fg)), (hw2, .inl (cI, 9, .inl u1.wn)), (ht2, .inl (cI, 4, .inl u1.tl))] := hD
  refine lv_aload_n hx hb dX2_becomes_52 rfl (lv_at hl 1 rfl) ?_
  refine va_get (D := D) (ci := 1) (v := .ref hk2) (C := RX2) (T := TX2) (N := 12) hx hb hts hi_X2 hown hK.1 hP 5 rfl rfl 8 (by decide) hk_36 (fun _ h9 => h9) rfl dX2_becomes_53 ?_
  refine lv_iconst (v := 0) hx hb dX2_becomes_56 (by decide) ?_
  refine lv_aload_n hx hb dX2_becomes_57 rfl (lv_at hl 0 rfl) ?_
  refine va_get (D := D) (ci := 1) (v := .ref hk) (C := RX2) (T := TX2) (N := 12) hx hb hts hi_X2 hown hK.1 hP 0 rfl rfl 8 (by decide) hk_36 (fun _ h9 => h9) rfl dX2_becomes_58 ?_
  refine lv_iconst (v := 0) hx hb dX2_becomes_61 (by decide) ?_
  refine lv_bipush (v := 9) hx hb dX2_becomes_62 (by decide) ?_
  refine va_copyi hx hb (hml.trans hl.1.symm) hown hm_49 hcn hcs hci hK.1 hP hD hS 6 1 0 0 rfl rfl rfl rfl rfl (by decide) (by decide) (by decide) (by decide) (by decide) (fun _ _ => rfl) (by decide) (Nat.le_of_ble_eq_true rfl) dX2_becomes_64 (fun H locs hP hD hS => ?_)
  have hP : va_P D vwCl [(h, .inr (1, [.int u1.sz, .int u1.dy, .int u1.rb, .int u1.ins, .int 0, .int 0, .int 0, .int 0, .ref hk, .ref hf, .ref hw, .ref ht])), (hk, .inl (cI, 9, .inl (va_cpy u1.kd u.kd (0 : Int32).toNatClampNeg (0 : Int32).toNatClampNeg (9 : Int32).toNatClampNeg))), (hf, .inl (cI, 9, .inl u.fg)), (hw, .inl (cI, 9, .inl u.wn)), (ht, .inl (cI, 4, .inl u.tl)), (h2, .inr (1, [.int u1.sz, .int u1.dy, .int u1.rb, .int u1.ins, .int u1.fo, .int u1.fl, .int u1.uw, .int u1.lo, .ref hk2, .ref hf2, .ref hw2, .ref ht2])), (hk2, .inl (cI, 9, .inl u1.kd)), (hf2, .inl (cI, 9, .inl u1.fg)), (hw2, .inl (cI, 9, .inl u1.wn)), (ht2, .inl (cI, 4, .inl u1.tl))] H := hP
  have hD : va_D A [(h, .inr (1, [.int u1.sz, .int u1.dy, .int u1.rb, .int u1.ins, .int 0, .int 0, .int 0, .int 0, .ref hk, .ref hf, .ref hw, .ref ht])), (hk, .inl (cI, 9, .inl (va_cpy u1.kd u.kd (0 : Int32).toNatClampNeg (0 : Int32).toNatClampNeg (9 : Int32).toNatClampNeg))), (hf, .inl (cI, 9, .inl u.fg)), (hw, .inl (cI, 9, .inl u.wn)), (ht, .inl (cI, 4, .inl u.tl)), (h2, .inr (1, [.int u1.sz, .int u1.dy, .int u1.rb, .int u1.ins, .int u1.fo, .int u1.fl, .int u1.uw, .int u1.lo, .ref hk2, .ref hf2, .ref hw2, .ref ht2])), (hk2, .inl (cI, 9, .inl u1.kd)), (hf2, .inl (cI, 9, .inl u1.fg)), (hw2, .inl (cI, 9, .inl u1.wn)), (ht2, .inl (cI, 4, .inl u1.tl))] := hD
  replace hP := xa_same hP 1 rfl u1.kd (fun j hj => (cpy0 rfl hj).symm)
  replace hD := va_D.set (e := .inl (cI, 9, .inl u1.kd)) hD (p := 1) rfl
  have hP : va_P D vwCl [(h, .inr (1, [.int u1.sz, .int u1.dy, .int u1.rb, .int u1.ins, .int 0, .int 0, .int 0, .int 0, .ref hk, .ref hf, .ref hw, .ref ht])), (hk, .inl (cI, 9, .inl u1.kd)), (hf, .inl (cI, 9, .inl u.fg)), (hw, .inl (cI, 9, .inl u.wn)), (ht, .inl (cI, 4, .inl u.tl)), (h2, .inr (1, [.int u1.sz, .int u1.dy, .int u1.rb, .int u1.ins, .int u1.fo, .int u1.fl, .int u1.uw, .int u1.lo, .ref hk2, .ref hf2, .ref hw2, .ref ht2])), (hk2, .inl (cI, 9, .inl u1.kd)), (hf2, .inl (cI, 9, .inl u1.fg)), (hw2, .inl (cI, 9, .inl u1.wn)), (ht2, .inl (cI, 4, .inl u1.tl))] H := hP
  have hD : va_D A [(h, .inr (1, [.int u1.sz, .int u1.dy, .int u1.rb, .int u1.ins, .int 0, .int 0, .int 0, .int 0, .ref hk, .ref hf, .ref hw, .ref ht])), (hk, .inl (cI, 9, .inl u1.kd)), (hf, .inl (cI, 9, .inl u.fg)), (hw, .inl (cI, 9, .inl u.wn)), (ht, .inl (cI, 4, .inl u.tl)), (h2, .inr (1, [.int u1.sz, .int u1.dy, .int u1.rb, .int u1.ins, .int u1.fo, .int u1.fl, .int u1.uw, .int u1.lo, .ref hk2, .ref hf2, .ref hw2, .ref ht2])), (hk2, .inl (cI, 9, .inl u1.kd)), (hf2, .inl (cI, 9, .inl u1.fg)), (hw2, .inl (cI, 9, .inl u1.wn)), (ht2, .inl (cI, 4, .inl u1.tl))] := hD
  refine lv_aload_n hx hb dX2_becomes_67 rfl (lv_at hl 1 rfl) ?_
  refine va_get (D := D) (ci := 1) (v := .ref hf2) (C := RX2) (T := TX2) (N := 12) hx hb hts hi_X2 hown hK.1 hP 5 rfl rfl 9 (by decide) hk_40 (fun _ h9 => h9) rfl dX2_becomes_68 ?_
  refine lv_iconst (v := 0) hx hb dX2_becomes_71 (by decide) ?_
  refine lv_aload_n hx hb dX2_becomes_72 rfl (lv_at hl 0 rfl) ?_
  refine va_get (D := D) (ci := 1) (v := .ref hf) (C := RX2) (T := TX2) (N := 12) hx hb hts hi_X2 hown hK.1 hP 0 rfl rfl 9 (by decide) hk_40 (fun _ h9 => h9) rfl dX2_becomes_73 ?_
  refine lv_iconst (v := 0) hx hb dX2_becomes_76 (by decide) ?_
  refine lv_bipush (v := 9) hx hb dX2_becomes_77 (by decide) ?_
  refine va_copyi hx hb (hml.trans hl.1.symm) hown hm_49 hcn hcs hci hK.1 hP hD hS 7 2 0 0 rfl rfl rfl rfl rfl (by decide) (by decide) (by decide) (by decide) (by decide) (fun _ _ => rfl) (by decide) (Nat.le_of_ble_eq_true rfl) dX2_becomes_79 (fun H locs hP hD hS => ?_)
  have hP : va_P D vwCl [(h, .inr (1, [.int u1.sz, .int u1.dy, .int u1.rb, .int u1.ins, .int 0, .int 0, .int 0, .int 0, .ref hk, .ref hf, .ref hw, .ref ht])), (hk, .inl (cI, 9, .inl u1.kd)), (hf, .inl (cI, 9, .inl (va_cpy u1.fg u.fg (0 : Int32).toNatClampNeg (0 : Int32).toNatClampNeg (9 : Int32).toNatClampNeg))), (hw, .inl (cI, 9, .inl u.wn)), (ht, .inl (cI, 4, .inl u.tl)), (h2, .inr (1, [.int u1.sz, .int u1.dy, .int u1.rb, .int u1.ins, .int u1.fo, .int u1.fl, .int u1.uw, .int u1.lo, .ref hk2, .ref hf2, .ref hw2, .ref ht2])), (hk2, .inl (cI, 9, .inl u1.kd)), (hf2, .inl (cI, 9, .inl u1.fg)), (hw2, .inl (cI, 9, .inl u1.wn)), (ht2, .inl (cI, 4, .inl u1.tl))] H := hP
  have hD : va_D A [(h, .inr (1, [.int u1.sz, .int u1.dy, .int u1.rb, .int u1.ins, .int 0, .int 0, .int 0, .int 0, .ref hk, .ref hf, .ref hw, .ref ht])), (hk, .inl (cI, 9, .inl u1.kd)), (hf, .inl (cI, 9, .inl (va_cpy u1.fg u.fg (0 : Int32).toNatClampNeg (0 : Int32).toNatClampNeg (9 : Int32).toNatClampNeg))), (hw, .inl (cI, 9, .inl u.wn)), (ht, .inl (cI, 4, .inl u.tl)), (h2, .inr (1, [.int u1.sz, .int u1.dy, .int u1.rb, .int u1.ins, .int u1.fo, .int u1.fl, .int u1.uw, .int u1.lo, .ref hk2, .ref hf2, .ref hw2, .ref ht2])), (hk2, .inl (cI, 9, .inl u1.kd)), (hf2, .inl (cI, 9, .inl u1.fg)), (hw2, .inl (cI, 9, .inl u1.wn)), (ht2, .inl (cI, 4, .inl u1.tl))] := hD
  replace hP := xa_same hP 2 rfl u1.fg (fun j hj => (cpy0 rfl hj).symm)
  replace hD := va_D.set (e := .inl (cI, 9, .inl u1.fg)) hD (p := 2) rfl
  have hP : va_P D vwCl [(h, .inr (1, [.int u1.sz, .int u1.dy, .int u1.rb, .int u1.ins, .int 0, .int 0, .int 0, .int 0, .ref hk, .ref hf, .ref hw, .ref ht])), (hk, .inl (cI, 9, .inl u1.kd)), (hf, .inl (cI, 9, .inl u1.fg)), (hw, .inl (cI, 9, .inl u.wn)), (ht, .inl (cI, 4, .inl u.tl)), (h2, .inr (1, [.int u1.sz, .int u1.dy, .int u1.rb, .int u1.ins, .int u1.fo, .int u1.fl, .int u1.uw, .int u1.lo, .ref hk2, .ref hf2, .ref hw2, .ref ht2])), (hk2, .inl (cI, 9, .inl u1.kd)), (hf2, .inl (cI, 9, .inl u1.fg)), (hw2, .inl (cI, 9, .inl u1.wn)), (ht2, .inl (cI, 4, .inl u1.tl))] H := hP
  have hD : va_D A [(h, .inr (1, [.int u1.sz, .int u1.dy, .int u1.rb, .int u1.ins, .int 0, .int 0, .int 0, .int 0, .ref hk, .ref hf, .ref hw, .ref ht])), (hk, .inl (cI, 9, .inl u1.kd)), (hf, .inl (cI, 9, .inl u1.fg)), (hw, .inl (cI, 9, .inl u.wn)), (ht, .inl (cI, 4, .inl u.tl)), (h2, .inr (1, [.int u1.sz, .int u1.dy, .int u1.rb, .int u1.ins, .int u1.fo, .int u1.fl, .int u1.uw, .int u1.lo, .ref hk2, .ref hf2, .ref hw2, .ref ht2])), (hk2, .inl (cI, 9, .inl u1.kd)), (hf2, .inl (cI, 9, .inl u1.fg)), (hw2, .inl (cI, 9, .inl u1.wn)), (ht2, .inl (cI, 4, .inl u1.tl))] := hD
  refine lv_aload_n hx hb dX2_becomes_82 rfl (lv_at hl 1 rfl) ?_
  refine va_get (D := D) (ci := 1) (v := .ref hw2) (C := RX2) (T := TX2) (N := 12) hx hb hts hi_X2 hown hK.1 hP 5 rfl rfl 10 (by decide) hk_43 (fun _ h9 => h9) rfl dX2_becomes_83 ?_
  refine lv_iconst (v := 0) hx hb dX2_becomes_86 (by decide) ?_
  refine lv_aload_n hx hb dX2_becomes_87 rfl (lv_at hl 0 rfl) ?_
  refine va_get (D := D) (ci := 1) (v := .ref hw) (C := RX2) (T := TX2) (N := 12) hx hb hts hi_X2 hown hK.1 hP 0 rfl rfl 10 (by decide) hk_43 (fun _ h9 => h9) rfl dX2_becomes_88 ?_
  refine lv_iconst (v := 0) hx hb dX2_becomes_91 (by decide) ?_
  refine lv_bipush (v := 9) hx hb dX2_becomes_92 (by decide) ?_
  refine va_copyi hx hb (hml.trans hl.1.symm) hown hm_49 hcn hcs hci hK.1 hP hD hS 8 3 0 0 rfl rfl rfl rfl rfl (by decide) (by decide) (by decide) (by decide) (by decide) (fun _ _ => rfl) (by decide) (Nat.le_of_ble_eq_true rfl) dX2_becomes_94 (fun H locs hP hD hS => ?_)
  have hP : va_P D vwCl [(h, .inr (1, [.int u1.sz, .int u1.dy, .int u1.rb, .int u1.ins, .int 0, .int 0, .int 0, .int 0, .ref hk, .ref hf, .ref hw, .ref ht])), (hk, .inl (cI, 9, .inl u1.kd)), (hf, .inl (cI, 9, .inl u1.fg)), (hw, .inl (cI, 9, .inl (va_cpy u1.wn u.wn (0 : Int32).toNatClampNeg (0 : Int32).toNatClampNeg (9 : Int32).toNatClampNeg))), (ht, .inl (cI, 4, .inl u.tl)), (h2, .inr (1, [.int u1.sz, .int u1.dy, .int u1.rb, .int u1.ins, .int u1.fo, .int u1.fl, .int u1.uw, .int u1.lo, .ref hk2, .ref hf2, .ref hw2, .ref ht2])), (hk2, .inl (cI, 9, .inl u1.kd)), (hf2, .inl (cI, 9, .inl u1.fg)), (hw2, .inl (cI, 9, .inl u1.wn)), (ht2, .inl (cI, 4, .inl u1.tl))] H := hP
  have hD : va_D A [(h, .inr (1, [.int u1.sz, .int u1.dy, .int u1.rb, .int u1.ins, .int 0, .int 0, .int 0, .int 0, .ref hk, .ref hf, .ref hw, .ref ht])), (hk, .inl (cI, 9, .inl u1.kd)), (hf, .inl (cI, 9, .inl u1.fg)), (hw, .inl (cI, 9, .inl (va_cpy u1.wn u.wn (0 : Int32).toNatClampNeg (0 : Int32).toNatClampNeg (9 : Int32).toNatClampNeg))), (ht, .inl (cI, 4, .inl u.tl)), (h2, .inr (1, [.int u1.sz, .int u1.dy, .int u1.rb, .int u1.ins, .int u1.fo, .int u1.fl, .int u1.uw, .int u1.lo, .ref hk2, .ref hf2, .ref hw2, .ref ht2])), (hk2, .inl (cI, 9, .inl u1.kd)), (hf2, .inl (cI, 9, .inl u1.fg)), (hw2, .inl (cI, 9, .inl u1.wn)), (ht2, .inl (cI, 4, .inl u1.tl))] := hD
  replace hP := xa_same hP 3 rfl u1.wn (fun j hj => (cpy0 rfl hj).symm)
  replace hD := va_D.set (e := .inl (cI, 9, .inl u1.wn)) hD (p := 3) rfl
  have hP : va_P D vwCl [(h, .inr (1, [.int u1.sz, .int u1.dy, .int u1.rb, .int u1.ins, .int 0, .int 0, .int 0, .int 0, .ref hk, .ref hf, .ref hw, .ref ht])), (hk, .inl (cI, 9, .inl u1.kd)), (hf, .inl (cI, 9, .inl u1.fg)), (hw, .inl (cI, 9, .inl u1.wn)), (ht, .inl (cI, 4, .inl u.tl)), (h2, .inr (1, [.int u1.sz, .int u1.dy, .int u1.rb, .int u1.ins, .int u1.fo, .int u1.fl, .int u1.uw, .int u1.lo, .ref hk2, .ref hf2, .ref hw2, .ref ht2])), (hk2, .inl (cI, 9, .inl u1.kd)), (hf2, .inl (cI, 9, .inl u1.fg)), (hw2, .inl (cI, 9, .inl u1.wn)), (ht2, .inl (cI, 4, .inl u1.tl))] H := hP
  have hD : va_D A [(h, .inr (1, [.int u1.sz, .int u1.dy, .int u1.rb, .int u1.ins, .int 0, .int 0, .int 0, .int 0, .ref hk, .ref hf, .ref hw, .ref ht])), (hk, .inl (cI, 9, .inl u1.kd)), (hf, .inl (cI, 9, .inl u1.fg)), (hw, .inl (cI, 9, .inl u1.wn)), (ht, .inl (cI, 4, .inl u.tl)), (h2, .inr (1, [.int u1.sz, .int u1.dy, .int u1.rb, .int u1.ins, .int u1.fo, .int u1.fl, .int u1.uw, .int u1.lo, .ref hk2, .ref hf2, .ref hw2, .ref ht2])), (hk2, .inl (cI, 9, .inl u1.kd)), (hf2, .inl (cI, 9, .inl u1.fg)), (hw2, .inl (cI, 9, .inl u1.wn)), (ht2, .inl (cI, 4, .inl u1.tl))] := hD
  refine lv_aload_n hx hb dX2_becomes_97 rfl (lv_at hl 1 rfl) ?_
  refine va_get (D := D) (ci := 1) (v := .ref ht2) (C := RX2) (T := TX2) (N := 12) hx hb hts hi_X2 hown hK.1 hP 5 rfl rfl 11 (by decide) hk_46 (fun _ h9 => h9) rfl dX2_becomes_98 ?_
  refine lv_iconst (v := 0) hx hb dX2_becomes_101 (by decide) ?_
  refine lv_aload_n hx hb dX2_becomes_102 rfl (lv_at hl 0 rfl) ?_
  refine va_get (D := D) (ci := 1) (v := .ref ht) (C := RX2) (T := TX2) (N := 12) hx hb hts hi_X2 hown hK.1 hP 0 rfl rfl 11 (by decide) hk_46 (fun _ h9 => h9) rfl dX2_becomes_103 ?_
  refine lv_iconst (v := 0) hx hb dX2_becomes_106 (by decide) ?_
  refine lv_iconst (v := 4) hx hb dX2_becomes_107 (by decide) ?_
  refine va_copyi hx hb (hml.trans hl.1.symm) hown hm_49 hcn hcs hci hK.1 hP hD hS 9 4 0 0 rfl rfl rfl rfl rfl (by decide) (by decide) (by decide) (by decide) (by decide) (fun _ _ => rfl) (by decide) (Nat.le_of_ble_eq_true rfl) dX2_becomes_108 (fun H locs hP hD hS => ?_)
  have hP : va_P D vwCl [(h, .inr (1, [.int u1.sz, .int u1.dy, .int u1.rb, .int u1.ins, .int 0, .int 0, .int 0, .int 0, .ref hk, .ref hf, .ref hw, .ref ht])), (hk, .inl (cI, 9, .inl u1.kd)), (hf, .inl (cI, 9, .inl u1.fg)), (hw, .inl (cI, 9, .inl u1.wn)), (ht, .inl (cI, 4, .inl (va_cpy u1.tl u.tl (0 : Int32).toNatClampNeg (0 : Int32).toNatClampNeg (4 : Int32).toNatClampNeg))), (h2, .inr (1, [.int u1.sz, .int u1.dy, .int u1.rb, .int u1.ins, .int u1.fo, .int u1.fl, .int u1.uw, .int u1.lo, .ref hk2, .ref hf2, .ref hw2, .ref ht2])), (hk2, .inl (cI, 9, .inl u1.kd)), (hf2, .inl (cI, 9, .inl u1.fg)), (hw2, .inl (cI, 9, .inl u1.wn)), (ht2, .inl (cI, 4, .inl u1.tl))] H := hP
  have hD : va_D A [(h, .inr (1, [.int u1.sz, .int u1.dy, .int u1.rb, .int u1.ins, .int 0, .int 0, .int 0, .int 0, .ref hk, .ref hf, .ref hw, .ref ht])), (hk, .inl (cI, 9, .inl u1.kd)), (hf, .inl (cI, 9, .inl u1.fg)), (hw, .inl (cI, 9, .inl u1.wn)), (ht, .inl (cI, 4, .inl (va_cpy u1.tl u.tl (0 : Int32).toNatClampNeg (0 : Int32).toNatClampNeg (4 : Int32).toNatClampNeg))), (h2, .inr (1, [.int u1.sz, .int u1.dy, .int u1.rb, .int u1.ins, .int u1.fo, .int u1.fl, .int u1.uw, .int u1.lo, .ref hk2, .ref hf2, .ref hw2, .ref ht2])), (hk2, .inl (cI, 9, .inl u1.kd)), (hf2, .inl (cI, 9, .inl u1.fg)), (hw2, .inl (cI, 9, .inl u1.wn)), (ht2, .inl (cI, 4, .inl u1.tl))] := hD
  replace hP := xa_same hP 4 rfl u1.tl (fun j hj => (cpy0 rfl hj).symm)
  replace hD := va_D.set (e := .inl (cI, 4, .inl u1.tl)) hD (p := 4) rfl
  have hP : va_P D vwCl [(h, .inr (1, [.int u1.sz, .int u1.dy, .int u1.rb, .int u1.ins, .int 0, .int 0, .int 0, .int 0, .ref hk, .ref hf, .ref hw, .ref ht])), (hk, .inl (cI, 9, .inl u1.kd)), (hf, .inl (cI, 9, .inl u1.fg)), (hw, .inl (cI, 9, .inl u1.wn)), (ht, .inl (cI, 4, .inl u1.tl)), (h2, .inr (1, [.int u1.sz, .int u1.dy, .int u1.rb, .int u1.ins, .int u1.fo, .int u1.fl, .int u1.uw, .int u1.lo, .ref hk2, .ref hf2, .ref hw2, .ref ht2])), (hk2, .inl (cI, 9, .inl u1.kd)), (hf2, .inl (cI, 9, .inl u1.fg)), (hw2, .inl (cI, 9, .inl u1.wn)), (ht2, .inl (cI, 4, .inl u1.tl))] H := hP
  have hD : va_D A [(h, .inr (1, [.int u1.sz, .int u1.dy, .int u1.rb, .int u1.ins, .int 0, .int 0, .int 0, .int 0, .ref hk, .ref hf, .ref hw, .ref ht])), (hk, .inl (cI, 9, .inl u1.kd)), (hf, .inl (cI, 9, .inl u1.fg)), (hw, .inl (cI, 9, .inl u1.wn)), (ht, .inl (cI, 4, .inl u1.tl)), (h2, .inr (1, [.int u1.sz, .int u1.dy, .int u1.rb, .int u1.ins, .int u1.fo, .int u1.fl, .int u1.uw, .int u1.lo, .ref hk2, .ref hf2, .ref hw2, .ref ht2])), (hk2, .inl (cI, 9, .inl u1.kd)), (hf2, .inl (cI, 9, .inl u1.fg)), (hw2, .inl (cI, 9, .inl u1.wn)), (ht2, .inl (cI, 4, .inl u1.tl))] := hD
  exact hret 111 _ () _ _ dX2_becomes_111 trivial hP hD hS

set_option maxHeartbeats 4000000 in
set_option maxRecDepth 100000 in
theorem kX2_wear (l : Launch) (D : va_G) (cI : ClassId) (sz : Nat) (h hk hf hw ht : Nat) (u : TK) (r : RR) (n : Nat) (hR : Rep n r u) (p0 : Int32) : Met l yX2_wear wsX2_wear ({ frames := 1, cells := 0, slots := 0, locals := 21 }) (PRW D cI [.ref h, .int p0] [(h, .inr (1, [.int u.sz, .int u.dy, .int u.rb, .int u.ins, .int u.fo, .int u.fl, .int u.uw, .int u.lo, .ref hk, .ref hf, .ref hw, .ref ht])), (hk, .inl (cI, 9, .inl u.kd)), (hf, .inl (cI, 9, .inl u.fg)), (hw, .inl (cI, 9, .inl u.wn)), (ht, .inl (cI, 4, .inl u.tl))] sz) (va_Qv (S := TK) (fun u2 => u2 = (u.sz, u.dy, u.rb, u.ins, u.fo, u.fl, u.uw, u.lo, u.kd, u.fg, wrF u.wn p0 n, u.tl)) (BRW D [(h, .inr (1, [.int u.sz, .int u.dy, .int u.rb, .int u.ins, .int u.fo, .int u.fl, .int u.uw, .int u.lo, .ref hk, .ref hf, .ref hw, .ref ht])), (hk, .inl (cI, 9, .inl u.kd)), (hf, .inl (cI, 9, .inl u.fg)), (hw, .inl (cI, 9, .inl u.wn)), (ht, .inl (cI, 4, .inl u.tl))] sz (fun u => [(h, .inr (1, [.int u.sz, .int u.dy, .int u.rb, .int u.ins, .int u.fo, .int u.fl, .int u.uw, .int u.lo, .ref hk, .ref hf, .ref hw, .ref ht])), (hk, .inl (cI, 9, .inl u.kd)), (hf, .inl (cI, 9, .inl u.fg)), (hw, .inl (cI, 9, .inl u.wn)), (ht, .inl (cI, 4, .inl u.tl))])) (va_A [(h, .inr (1, [.int u.sz, .int u.dy, .int u.rb, .int u.ins, .int u.fo, .int u.fl, .int u.uw, .int u.lo, .ref hk, .ref hf, .ref hw, .ref ht])), (hk, .inl (cI, 9, .inl u.kd)), (hf, .inl (cI, 9, .inl u.fg)), (hw, .inl (cI, 9, .inl u.wn)), (ht, .inl (cI, 4, .inl u.tl))] sz)) 0 0 (va_A [(h, .inr (1, [.int u.sz, .int u.dy, .int u.rb, .int u.ins, .int u.fo, .int u.fl, .int u.uw, .int u.lo, .ref hk, .ref hf, .ref hw, .ref ht])), (hk, .inl (cI, 9, .inl u.kd)), (hf, .inl (cI, 9, .inl u.fg)), (hw, .inl (cI, 9, .inl u.wn)), (ht, .inl (cI, 4, .inl u.tl))] sz) := by
  refine st_rwv (cc := cX2_wear) (maxL := 3) (by decide) rfl (Nat.le_of_ble_eq_true rfl) ?_
  intro p e s m below meth c Q ls A hx hb hml hts hown hP hK hD hA hS hl hret
  replace hown : s.vm.findClass RX2 = some m.cls := hown
  replace hl : lv_has ls 3 [(0, .ref h), (1, .int p0)] := hl
  obtain ⟨H, hH⟩ : ∃ z, z = s.heap := ⟨_, rfl⟩
  obtain ⟨locs, hlo⟩ : ∃ z : List Loc, z = [] := ⟨_, rfl⟩
  replace hP : va_P D vwCl [(h, .inr (1, [.int u.sz, .int u.dy, .int u.rb, .int u.ins, .int u.fo, .int u.fl, .int u.uw, .int u.lo, .ref hk, .ref hf, .ref hw, .ref ht])), (hk, .inl (cI, 9, .inl u.kd)), (hf, .inl (cI, 9, .inl u.fg)), (hw, .inl (cI, 9, .inl u.wn)), (ht, .inl (cI, 4, .inl u.tl))] H := by rw [hH]; exact hP
  replace hS : va_S A s.heap H locs := by rw [hH, hlo]; exact hS
  show W p l e ({ frames := 1, cells := 0, slots := 0, locals := 21 }) s m [.ref h, .int p0].toArray below meth c s.heap [] 0 0 Q (F0 m 0 ls [])
  rw [← hlo]
  suffices hgo : W p l e ({ frames := 1, cells := 0, slots := 0, locals := 21 }) s m [.ref h, .int p0].toArray below meth c H locs 0 0 Q (F0 m 0 ls []) by rw [hH] at hgo; exact hgo
  clear hH hlo
  have hi_X2 : ∀ w ∈ wsX20, w ∈ wsX2_wear := fun w h => List.mem_cons_of_mem _ (List.mem_append_right _ (h))
  have hk_9 := hts (.fieldLink RX2 9 "NestsOfTalk$Talk" "size" "I") (List.mem_of_getElem? (i := 1) rfl)
  have hk_43 := hts (.fieldLink RX2 43 "NestsOfTalk$Talk" "worn" "[I") (List.mem_of_getElem? (i := 2) rfl)
  have hm_85 := hts (.methodLink RX2 85 Lib.Math.min.name) (List.mem_of_getElem? (i := 3) rfl)
  have hms_min := hts (.static Lib.Math.min.name) (List.mem_of_getElem? (i := 4) rfl)
  have hmi := hts (.initialized "java/lang/Math") (List.mem_of_getElem? (i := 5) rfl)
  have hmc_min := hts (.code Lib.Math.min.name Lib.Math.min.code 2 (some .int)) (List.mem_of_getElem? (i := 6) rfl)
  have hn9 := hR.le
  refine lv_iconst (v := 0) hx hb dX2_wear_0 (by decide) ?_
  refine lv_istore_n (lv' := [(2, .int 0), (0, .ref h), (1, .int p0)]) hx hb dX2_wear_1 rfl hl (by decide) rfl (fun ls hl => ?_)
  have lp_2_1 : ∀ (fu : Nat) (i : Nat) (x2 : Int32) (w : Nat → Int32) (ls : Array Slot) (H : Heap) (locs : List Loc), n - i < fu → (x2 = nI i) → (i ≤ n) → (w = wrF u.wn p0 i) → va_P D vwCl [(h, .inr (1, [.int u.sz, .int u.dy, .int u.rb, .int u.ins, .int u.fo, .int u.fl, .int u.uw, .int u.lo, .ref hk, .ref hf, .ref hw, .ref ht])), (hk, .inl (cI, 9, .inl u.kd)), (hf, .inl (cI, 9, .inl u.fg)), (hw, .inl (cI, 9, .inl w)), (ht, .inl (cI, 4, .inl u.tl))] H → va_D A [(h, .inr (1, [.int u.sz, .int u.dy, .int u.rb, .int u.ins, .int u.fo, .int u.fl, .int u.uw, .int u.lo, .ref hk, .ref hf, .ref hw, .ref ht])), (hk, .inl (cI, 9, .inl u.kd)), (hf, .inl (cI, 9, .inl u.fg)), (hw, .inl (cI, 9, .inl w)), (ht, .inl (cI, 4, .inl u.tl))] → va_S A s.heap H locs → lv_has ls 3 [(2, .int x2), (0, .ref h), (1, .int p0)] → W p l e ({ frames := 1, cells := 0, slots := 0, locals := 21 }) s m [.ref h, .int p0].toArray below meth c H locs 0 0 Q (F0 m 2 ls []) := by
    intro fu
    induction fu with
    | zero =>
      intro i x2 w ls H locs hfu
      exact absurd hfu (Nat.not_lt_zero _)
    | succ fu ih_1 =>
      intro i x2 w ls H locs hfu hx2 hi hw2 hP hD hS hl
      refine lv_iload_n hx hb dX2_wear_2 rfl (lv_at hl 0 rfl) ?_
      refine lv_aload_n hx hb dX2_wear_3 rfl (lv_at hl 1 rfl) ?_
      refine va_get (D := D) (ci := 1) (v := .int u.sz) (C := RX2) (T := TX2) (N := 12) hx hb hts hi_X2 hown hK.1 hP 0 rfl rfl 0 (by decide) hk_9 (fun _ h9 => h9) rfl dX2_wear_4 ?_
      refine lv_icmp_ge (tgt := 50) hx hb dX2_wear_7 (by decide) (fun c_2 => ?_) (fun c_2 => ?_)
      · skip
        have n_2 : n ≤ i := (ni_le (a := n) (b := i) hR.hsz hx2 (by omega) (by omega)).mp c_2
        exact hret 50 _ (u.sz, u.dy, u.rb, u.ins, u.fo, u.fl, u.uw, u.lo, u.kd, u.fg, w, u.tl) _ _ dX2_wear_50 (by have e9 : i = n := (by omega); subst e9; rw [hw2]) hP hD hS
      have n_2 : ¬ n ≤ i := fun q => c_2 ((ni_le (a := n) (b := i) hR.hsz hx2 (by omega) (by omega)).mpr q)
      refine lv_iload_n hx hb dX2_wear_10 rfl (lv_at hl 0 rfl) ?_
      refine lv_bipush (v := 9) hx hb dX2_wear_11 (by decide) ?_
      refine lv_icmp_ge (tgt := 50) hx hb dX2_wear_13 (by decide) (fun c_3 => ?_) (fun c_3 => ?_)
      · skip
        have n_3 : 9 ≤ i := (ni_le (a := 9) (b := i) (rfl : (9 : Int32) = nI 9) hx2 (by decide) (by omega)).mp c_3
        exfalso; omega
      have n_3 : ¬ 9 ≤ i := fun q => c_3 ((ni_le (a := 9) (b := i) (rfl : (9 : Int32) = nI 9) hx2 (by decide) (by omega)).mpr q)
      refine lv_iload_n hx hb dX2_wear_16 rfl (lv_at hl 2 rfl) ?_
      refine lv_iload_n hx hb dX2_wear_17 rfl (lv_at hl 0 rfl) ?_
      refine lv_ishr hx hb dX2_wear_18 ?_
      refine lv_iconst (v := 1) hx hb dX2_wear_19 (by decide) ?_
      refine lv_iand hx hb dX2_wear_20 ?_
      refine lv_iconst (v := 1) hx hb dX2_wear_21 (by decide) ?_
      refine lv_icmp_ne (tgt := 44) hx hb dX2_wear_22 (by decide) (fun c_4 => ?_) (fun c_4 => ?_)
      · skip
        have hb_4 : bt p0 i = false := hx_f hx2 (by omega) c_4
        obtain ⟨x_5, ex_5⟩ : ∃ z : Int32, z = x2 + 1 := ⟨_, rfl⟩
        refine lv_iinc (v := x_5) (lv' := [(2, .int x_5), (0, .ref h), (1, .int p0)]) hx hb dX2_wear_44 hl (k := 0) rfl (by rw [ex_5]; rfl) (by decide) rfl (fun ls hl => ?_)
        refine lv_goto (tgt := 2) hx hb dX2_wear_47 (by decide) ?_
        exact ih_1 (i + 1) x_5 w _ _ _ (by omega) (ni_add (a := i) (b := 1) ex_5 hx2 (rfl : (1 : Int32) = nI 1)) (by omega) (by clear ih_1; clear hret hP hK hts hown hx hb hml hl hD hA hS hk_9 hk_43 hm_85 hms_min hmi hmc_min hi_X2; subst_vars; simp_all [wrF, hx_iff, min_lst]) hP hD hS (lv_sub hl [0, 1, 2] rfl)
      have hb_4 : bt p0 i = true := hx_t hx2 (by omega) c_4
      refine lv_aload_n hx hb dX2_wear_25 rfl (lv_at hl 1 rfl) ?_
      refine va_get (D := D) (ci := 1) (v := .ref hw) (C := RX2) (T := TX2) (N := 12) hx hb hts hi_X2 hown hK.1 hP 0 rfl rfl 10 (by decide) hk_43 (fun _ h9 => h9) rfl dX2_wear_26 ?_
      refine lv_iload_n hx hb dX2_wear_29 rfl (lv_at hl 0 rfl) ?_
      refine lv_bipush (v := 9) hx hb dX2_wear_30 (by decide) ?_
      refine lv_aload_n hx hb dX2_wear_32 rfl (lv_at hl 1 rfl) ?_
      refine va_get (D := D) (ci := 1) (v := .ref hw) (C := RX2) (T := TX2) (N := 12) hx hb hts hi_X2 hown hK.1 hP 0 rfl rfl 10 (by decide) hk_43 (fun _ h9 => h9) rfl dX2_wear_33 ?_
      refine lv_iload_n hx hb dX2_wear_36 rfl (lv_at hl 0 rfl) ?_
      refine xa_ld hx hb hK hP 3 rfl (j := i) hx2 (by omega) (by decide) dX2_wear_37 ?_
      refine lv_iconst (v := 1) hx hb dX2_wear_38 (by decide) ?_
      refine lv_iadd hx hb dX2_wear_39 ?_
      refine va_mmin hx hb (hml.trans hl.1.symm) hown hm_85 hms_min hmi hmc_min (by decide) (Nat.le_of_ble_eq_true rfl) (Nat.zero_le _) (Nat.zero_le _) dX2_wear_40 ?_
      refine xa_st hx hb hK hP hD hS 3 rfl (j := i) hx2 (by omega) (by decide) dX2_wear_43 (fun H locs hP hD hS => ?_)
      obtain ⟨f_6, ef_6⟩ : ∃ z : Nat → Int32, z = upd w i (if ((w i) + 1) < 9 then ((w i) + 1) else 9) := ⟨_, rfl⟩
      replace hP : va_P D vwCl [(h, .inr (1, [.int u.sz, .int u.dy, .int u.rb, .int u.ins, .int u.fo, .int u.fl, .int u.uw, .int u.lo, .ref hk, .ref hf, .ref hw, .ref ht])), (hk, .inl (cI, 9, .inl u.kd)), (hf, .inl (cI, 9, .inl u.fg)), (hw, .inl (cI, 9, .inl (upd w i (if ((w i) + 1) < 9 then ((w i) + 1) else 9)))), (ht, .inl (cI, 4, .inl u.tl))] H := hP
      replace hD : va_D A [(h, .inr (1, [.int u.sz, .int u.dy, .int u.rb, .int u.ins, .int u.fo, .int u.fl, .int u.uw, .int u.lo, .ref hk, .ref hf, .ref hw, .ref ht])), (hk, .inl (cI, 9, .inl u.kd)), (hf, .inl (cI, 9, .inl u.fg)), (hw, .inl (cI, 9, .inl (upd w i (if ((w i) + 1) < 9 then ((w i) + 1) else 9)))), (ht, .inl (cI, 4, .inl u.tl))] := hD
      rw [← ef_6] at hP hD
      obtain ⟨x_7, ex_7⟩ : ∃ z : Int32, z = x2 + 1 := ⟨_, rfl⟩
      refine lv_iinc (v := x_7) (lv' := [(2, .int x_7), (0, .ref h), (1, .int p0)]) hx hb dX2_wear_44 hl (k := 0) rfl (by rw [ex_7]; rfl) (by decide) rfl (fun ls hl => ?_)
      refine lv_goto (tgt := 2) hx hb dX2_wear_47 (by decide) ?_
      exact ih_1 (i + 1) x_7 f_6 _ _ _ (by omega) (ni_add (a := i) (b := 1) ex_7 hx2 (rfl : (1 : Int32) = nI 1)) (by omega) (by clear ih_1; clear hret hP hK hts hown hx hb hml hl hD hA hS hk_9 hk_43 hm_85 hms_min hmi hmc_min hi_X2; subst_vars; simp_all [wrF, hx_iff, min_lst]) hP hD hS (lv_sub hl [0, 1, 2] rfl)
  exact lp_2_1 ((n - 0) + 1) 0 0 u.wn _ _ _ (by omega) (rfl : (0 : Int32) = nI 0) (by omega) rfl hP hD hS (lv_sub hl [0, 1, 2] rfl)

set_option maxHeartbeats 4000000 in
set_option maxRecDepth 100000 in
theorem kX2_bringDown (l : Launch) (D : va_G) (cI : ClassId) (sz : Nat) (h hk hf hw ht : Nat) (u : TK) (r : RR) (n : Nat) (hR : Rep n r u) (p0 : Int32) (t0 : Nat) (hp0 : p0 = nI t0) (ht0 : t0 < 4) : Met l yX2_bringDown wsX2_bringDown ({ frames := 1, cells := 0, slots := 0, locals := 21 }) (PRW D cI [.ref h, .int p0] [(h, .inr (1, [.int u.sz, .int u.dy, .int u.rb, .int u.ins, .int u.fo, .int u.fl, .int u.uw, .int u.lo, .ref hk, .ref hf, .ref hw, .ref ht])), (hk, .inl (cI, 9, .inl u.kd)), (hf, .inl (cI, 9, .inl u.fg)), (hw, .inl (cI, 9, .inl u.wn)), (ht, .inl (cI, 4, .inl u.tl))] sz) (va_Qv (S := TK) (fun u2 => u2 = bdT u r n t0) (BRW D [(h, .inr (1, [.int u.sz, .int u.dy, .int u.rb, .int u.ins, .int u.fo, .int u.fl, .int u.uw, .int u.lo, .ref hk, .ref hf, .ref hw, .ref ht])), (hk, .inl (cI, 9, .inl u.kd)), (hf, .inl (cI, 9, .inl u.fg)), (hw, .inl (cI, 9, .inl u.wn)), (ht, .inl (cI, 4, .inl u.tl))] sz (fun u => [(h, .inr (1, [.int u.sz, .int u.dy, .int u.rb, .int u.ins, .int u.fo, .int u.fl, .int u.uw, .int u.lo, .ref hk, .ref hf, .ref hw, .ref ht])), (hk, .inl (cI, 9, .inl u.kd)), (hf, .inl (cI, 9, .inl u.fg)), (hw, .inl (cI, 9, .inl u.wn)), (ht, .inl (cI, 4, .inl u.tl))])) (va_A [(h, .inr (1, [.int u.sz, .int u.dy, .int u.rb, .int u.ins, .int u.fo, .int u.fl, .int u.uw, .int u.lo, .ref hk, .ref hf, .ref hw, .ref ht])), (hk, .inl (cI, 9, .inl u.kd)), (hf, .inl (cI, 9, .inl u.fg)), (hw, .inl (cI, 9, .inl u.wn)), (ht, .inl (cI, 4, .inl u.tl))] sz)) 0 0 (va_A [(h, .inr (1, [.int u.sz, .int u.dy, .int u.rb, .int u.ins, .int u.fo, .int u.fl, .int u.uw, .int u.lo, .ref hk, .ref hf, .ref hw, .ref ht])), (hk, .inl (cI, 9, .inl u.kd)), (hf, .inl (cI, 9, .inl u.fg)), (hw, .inl (cI, 9, .inl u.wn)), (ht, .inl (cI, 4, .inl u.tl))] sz) := by
  refine st_rwv (cc := cX2_bringDown) (maxL := 3) (by decide) rfl (Nat.le_of_ble_eq_true rfl) ?_
  intro p e s m below meth c Q ls A hx hb hml hts hown hP hK hD hA hS hl hret
  replace hown : s.vm.findClass RX2 = some m.cls := hown
  replace hl : lv_has ls 3 [(0, .ref h), (1, .int p0)] := hl
  obtain ⟨H, hH⟩ : ∃ z, z = s.heap := ⟨_, rfl⟩
  obtain ⟨locs, hlo⟩ : ∃ z : List Loc, z = [] := ⟨_, rfl⟩
  replace hP : va_P D vwCl [(h, .inr (1, [.int u.sz, .int u.dy, .int u.rb, .int u.ins, .int u.fo, .int u.fl, .int u.uw, .int u.lo, .ref hk, .ref hf, .ref hw, .ref ht])), (hk, .inl (cI, 9, .inl u.kd)), (hf, .inl (cI, 9, .inl u.fg)), (hw, .inl (cI, 9, .inl u.wn)), (ht, .inl (cI, 4, .inl u.tl))] H := by rw [hH]; exact hP
  replace hS : va_S A s.heap H locs := by rw [hH, hlo]; exact hS
  show W p l e ({ frames := 1, cells := 0, slots := 0, locals := 21 }) s m [.ref h, .int p0].toArray below meth c s.heap [] 0 0 Q (F0 m 0 ls [])
  rw [← hlo]
  suffices hgo : W p l e ({ frames := 1, cells := 0, slots := 0, locals := 21 }) s m [.ref h, .int p0].toArray below meth c H locs 0 0 Q (F0 m 0 ls []) by rw [hH] at hgo; exact hgo
  clear hH hlo
  have hi_X2 : ∀ w ∈ wsX20, w ∈ wsX2_bringDown := fun w h => List.mem_cons_of_mem _ (List.mem_append_right _ (h))
  have hk_21 := hts (.fieldLink RX2 21 "NestsOfTalk$Talk" "inside" "I") (List.mem_of_getElem? (i := 1) rfl)
  have hk_18 := hts (.fieldLink RX2 18 "NestsOfTalk$Talk" "robbed" "I") (List.mem_of_getElem? (i := 2) rfl)
  have hm_85 := hts (.methodLink RX2 85 Lib.Math.min.name) (List.mem_of_getElem? (i := 3) rfl)
  have hms_min := hts (.static Lib.Math.min.name) (List.mem_of_getElem? (i := 4) rfl)
  have hmi := hts (.initialized "java/lang/Math") (List.mem_of_getElem? (i := 5) rfl)
  have hmc_min := hts (.code Lib.Math.min.name Lib.Math.min.code 2 (some .int)) (List.mem_of_getElem? (i := 6) rfl)
  have hk_27 := hts (.fieldLink RX2 27 "NestsOfTalk$Talk" "fallen" "I") (List.mem_of_getElem? (i := 7) rfl)
  have hk_24 := hts (.fieldLink RX2 24 "NestsOfTalk$Talk" "fallenOf" "I") (List.mem_of_getElem? (i := 8) rfl)
  have hn9 := hR.le
  refine lv_aload_n hx hb dX2_bringDown_0 rfl (lv_at hl 0 rfl) ?_
  refine lv_iload_n hx hb dX2_bringDown_1 rfl (lv_at hl 1 rfl) ?_
  refine xc_Vi (As := [.int p0]) (rest := []) ⟨hx, hb, hml, hown, hts⟩ (kX2_nestOf l D cI h hk hf hw ht u r n hR p0 t0 hp0 (by omega)) (cwV 1 hts gX2_bringDown_X2_nestOf rfl rfl rfl hv_X2_nestOf ⟨Nat.le_of_ble_eq_true rfl, Nat.le_of_ble_eq_true rfl⟩) hK hP [0, 1, 2, 3, 4] rfl 0 rfl rfl rfl hl.1 rfl (Nat.le_of_ble_eq_true rfl) dX2_bringDown_2 ⟨Nat.zero_le _, Nat.zero_le _⟩ (fun r_1 hr_1 => ?_)
  refine lv_istore_n (lv' := [(2, .int r_1), (0, .ref h), (1, .int p0)]) hx hb dX2_bringDown_5 rfl hl (by decide) rfl (fun ls hl => ?_)
  refine lv_iload_n hx hb dX2_bringDown_6 rfl (lv_at hl 0 rfl) ?_
  refine lv_if_ne (tgt := 11) hx hb dX2_bringDown_7 (by decide) (fun c_2 => ?_) (fun c_2 => ?_)
  · skip
    refine lv_aload_n hx hb dX2_bringDown_11 rfl (lv_at hl 1 rfl) ?_
    refine lv_dup hx hb dX2_bringDown_12 rfl ?_
    refine va_get (D := D) (ci := 1) (v := .int u.ins) (C := RX2) (T := TX2) (N := 12) hx hb hts hi_X2 hown hK.1 hP 0 rfl rfl 3 (by decide) hk_21 (fun _ h9 => h9) rfl dX2_bringDown_13 ?_
    refine lv_iload_n hx hb dX2_bringDown_16 rfl (lv_at hl 0 rfl) ?_
    refine lv_iconst (v := (-1)) hx hb dX2_bringDown_17 (by decide) ?_
    refine lv_ixor hx hb dX2_bringDown_18 ?_
    refine lv_iand hx hb dX2_bringDown_19 ?_
    refine lv_topi (fun x_3 ex_3 => ?_)
    refine va_put (D := D) (ci := 1) (v := .int x_3) (ty := .int) (C := RX2) (T := TX2) (N := 12) hx hb hts hi_X2 tyX2 tyX2_ok nmX2 hown hK.1 hP hD hS 0 rfl rfl 3 (by decide) hk_21 (fun _ h9 => h9) rfl pd_I rfl rfl (Nat.le_of_ble_eq_true rfl) dX2_bringDown_20 (fun H locs hP hD hS => ?_)
    have hP : va_P D vwCl [(h, .inr (1, [.int u.sz, .int u.dy, .int u.rb, .int x_3, .int u.fo, .int u.fl, .int u.uw, .int u.lo, .ref hk, .ref hf, .ref hw, .ref ht])), (hk, .inl (cI, 9, .inl u.kd)), (hf, .inl (cI, 9, .inl u.fg)), (hw, .inl (cI, 9, .inl u.wn)), (ht, .inl (cI, 4, .inl u.tl))] H := hP
    have hD : va_D A [(h, .inr (1, [.int u.sz, .int u.dy, .int u.rb, .int x_3, .int u.fo, .int u.fl, .int u.uw, .int u.lo, .ref hk, .ref hf, .ref hw, .ref ht])), (hk, .inl (cI, 9, .inl u.kd)), (hf, .inl (cI, 9, .inl u.fg)), (hw, .inl (cI, 9, .inl u.wn)), (ht, .inl (cI, 4, .inl u.tl))] := hD
    refine lv_aload_n hx hb dX2_bringDown_23 rfl (lv_at hl 1 rfl) ?_
    refine lv_sipush (v := 999) hx hb dX2_bringDown_24 (by decide) ?_
    refine lv_aload_n hx hb dX2_bringDown_27 rfl (lv_at hl 1 rfl) ?_
    refine va_get (D := D) (ci := 1) (v := .int u.rb) (C := RX2) (T := TX2) (N := 12) hx hb hts hi_X2 hown hK.1 hP 0 rfl rfl 2 (by decide) hk_18 (fun _ h9 => h9) rfl dX2_bringDown_28 ?_
    refine lv_iconst (v := 1) hx hb dX2_bringDown_31 (by decide) ?_
    refine lv_iadd hx hb dX2_bringDown_32 ?_
    refine va_mmin hx hb (hml.trans hl.1.symm) hown hm_85 hms_min hmi hmc_min (by decide) (Nat.le_of_ble_eq_true rfl) (Nat.zero_le _) (Nat.zero_le _) dX2_bringDown_33 ?_
    refine lv_topi (fun x_4 ex_4 => ?_)
    refine va_put (D := D) (ci := 1) (v := .int x_4) (ty := .int) (C := RX2) (T := TX2) (N := 12) hx hb hts hi_X2 tyX2 tyX2_ok nmX2 hown hK.1 hP hD hS 0 rfl rfl 2 (by decide) hk_18 (fun _ h9 => h9) rfl pd_I rfl rfl (Nat.le_of_ble_eq_true rfl) dX2_bringDown_36 (fun H locs hP hD hS => ?_)
    have hP : va_P D vwCl [(h, .inr (1, [.int u.sz, .int u.dy, .int x_4, .int x_3, .int u.fo, .int u.fl, .int u.uw, .int u.lo, .ref hk, .ref hf, .ref hw, .ref ht])), (hk, .inl (cI, 9, .inl u.kd)), (hf, .inl (cI, 9, .inl u.fg)), (hw, .inl (cI, 9, .inl u.wn)), (ht, .inl (cI, 4, .inl u.tl))] H := hP
    have hD : va_D A [(h, .inr (1, [.int u.sz, .int u.dy, .int x_4, .int x_3, .int u.fo, .int u.fl, .int u.uw, .int u.lo, .ref hk, .ref hf, .ref hw, .ref ht])), (hk, .inl (cI, 9, .inl u.kd)), (hf, .inl (cI, 9, .inl u.fg)), (hw, .inl (cI, 9, .inl u.wn)), (ht, .inl (cI, 4, .inl u.tl))] := hD
    refine lv_aload_n hx hb dX2_bringDown_39 rfl (lv_at hl 1 rfl) ?_
    refine lv_dup hx hb dX2_bringDown_40 rfl ?_
    refine va_get (D := D) (ci := 1) (v := .int u.fl) (C := RX2) (T := TX2) (N := 12) hx hb hts hi_X2 hown hK.1 hP 0 rfl rfl 5 (by decide) hk_27 (fun _ h9 => h9) rfl dX2_bringDown_41 ?_
    refine lv_iconst (v := 1) hx hb dX2_bringDown_44 (by decide) ?_
    refine lv_iadd hx hb dX2_bringDown_45 ?_
    refine lv_topi (fun x_5 ex_5 => ?_)
    refine va_put (D := D) (ci := 1) (v := .int x_5) (ty := .int) (C := RX2) (T := TX2) (N := 12) hx hb hts hi_X2 tyX2 tyX2_ok nmX2 hown hK.1 hP hD hS 0 rfl rfl 5 (by decide) hk_27 (fun _ h9 => h9) rfl pd_I rfl rfl (Nat.le_of_ble_eq_true rfl) dX2_bringDown_46 (fun H locs hP hD hS => ?_)
    have hP : va_P D vwCl [(h, .inr (1, [.int u.sz, .int u.dy, .int x_4, .int x_3, .int u.fo, .int x_5, .int u.uw, .int u.lo, .ref hk, .ref hf, .ref hw, .ref ht])), (hk, .inl (cI, 9, .inl u.kd)), (hf, .inl (cI, 9, .inl u.fg)), (hw, .inl (cI, 9, .inl u.wn)), (ht, .inl (cI, 4, .inl u.tl))] H := hP
    have hD : va_D A [(h, .inr (1, [.int u.sz, .int u.dy, .int x_4, .int x_3, .int u.fo, .int x_5, .int u.uw, .int u.lo, .ref hk, .ref hf, .ref hw, .ref ht])), (hk, .inl (cI, 9, .inl u.kd)), (hf, .inl (cI, 9, .inl u.fg)), (hw, .inl (cI, 9, .inl u.wn)), (ht, .inl (cI, 4, .inl u.tl))] := hD
    refine lv_aload_n hx hb dX2_bringDown_49 rfl (lv_at hl 1 rfl) ?_
    refine lv_dup hx hb dX2_bringDown_50 rfl ?_
    refine va_get (D := D) (ci := 1) (v := .int u.fo) (C := RX2) (T := TX2) (N := 12) hx hb hts hi_X2 hown hK.1 hP 0 rfl rfl 4 (by decide) hk_24 (fun _ h9 => h9) rfl dX2_bringDown_51 ?_
    refine lv_iconst (v := 1) hx hb dX2_bringDown_54 (by decide) ?_
    refine lv_iload_n hx hb dX2_bringDown_55 rfl (lv_at hl 2 rfl) ?_
    refine lv_ishl hx hb dX2_bringDown_56 ?_
    refine lv_ior hx hb dX2_bringDown_57 ?_
    refine lv_topi (fun x_6 ex_6 => ?_)
    refine va_put (D := D) (ci := 1) (v := .int x_6) (ty := .int) (C := RX2) (T := TX2) (N := 12) hx hb hts hi_X2 tyX2 tyX2_ok nmX2 hown hK.1 hP hD hS 0 rfl rfl 4 (by decide) hk_24 (fun _ h9 => h9) rfl pd_I rfl rfl (Nat.le_of_ble_eq_true rfl) dX2_bringDown_58 (fun H locs hP hD hS => ?_)
    have hP : va_P D vwCl [(h, .inr (1, [.int u.sz, .int u.dy, .int x_4, .int x_3, .int x_6, .int x_5, .int u.uw, .int u.lo, .ref hk, .ref hf, .ref hw, .ref ht])), (hk, .inl (cI, 9, .inl u.kd)), (hf, .inl (cI, 9, .inl u.fg)), (hw, .inl (cI, 9, .inl u.wn)), (ht, .inl (cI, 4, .inl u.tl))] H := hP
    have hD : va_D A [(h, .inr (1, [.int u.sz, .int u.dy, .int x_4, .int x_3, .int x_6, .int x_5, .int u.uw, .int u.lo, .ref hk, .ref hf, .ref hw, .ref ht])), (hk, .inl (cI, 9, .inl u.kd)), (hf, .inl (cI, 9, .inl u.fg)), (hw, .inl (cI, 9, .inl u.wn)), (ht, .inl (cI, 4, .inl u.tl))] := hD
    exact hret 61 _ (u.sz, u.dy, x_4, x_3, x_6, x_5, u.uw, u.lo, u.kd, u.fg, u.wn, u.tl) _ _ dX2_bringDown_61 (by clear hret hP hK hts hown hx hb hml hl hD hA hS hk_21 hk_18 hm_85 hms_min hmi hmc_min hk_27 hk_24 hi_X2; subst_vars; simp_all [bdT, min_lst, b1]) hP hD hS
  exact hret 10 _ u _ _ dX2_bringDown_10 (by clear hret hP hK hts hown hx hb hml hl hD hA hS hk_21 hk_18 hm_85 hms_min hmi hmc_min hk_27 hk_24 hi_X2; subst_vars; simp_all [bdT]) hP hD hS

set_option maxHeartbeats 4000000 in
set_option maxRecDepth 100000 in
theorem kX2_turnOver (l : Launch) (D : va_G) (cI : ClassId) (sz : Nat) (h hk hf hw ht : Nat) (u : TK) (r : RR) (n : Nat) (hR : Rep n r u) (p0 : Int32) (t0 : Nat) (hp0 : p0 = nI t0) (ht0 : t0 < n) : Met l yX2_turnOver wsX2_turnOver ({ frames := 0, cells := 0, slots := 0, locals := 0 }) (PRW D cI [.ref h, .int p0] [(h, .inr (1, [.int u.sz, .int u.dy, .int u.rb, .int u.ins, .int u.fo, .int u.fl, .int u.uw, .int u.lo, .ref hk, .ref hf, .ref hw, .ref ht])), (hk, .inl (cI, 9, .inl u.kd)), (hf, .inl (cI, 9, .inl u.fg)), (hw, .inl (cI, 9, .inl u.wn)), (ht, .inl (cI, 4, .inl u.tl))] sz) (va_Qi (S := TK) (fun v u2 => v = (if bt (u.ins ^^^ b1 t0) t0 = true then 1 else 0) ∧ u2 = (u.sz, u.dy, u.rb, u.ins ^^^ b1 t0, u.fo, u.fl, u.uw, u.lo, u.kd, u.fg, u.wn, u.tl)) (BRW D [(h, .inr (1, [.int u.sz, .int u.dy, .int u.rb, .int u.ins, .int u.fo, .int u.fl, .int u.uw, .int u.lo, .ref hk, .ref hf, .ref hw, .ref ht])), (hk, .inl (cI, 9, .inl u.kd)), (hf, .inl (cI, 9, .inl u.fg)), (hw, .inl (cI, 9, .inl u.wn)), (ht, .inl (cI, 4, .inl u.tl))] sz (fun u => [(h, .inr (1, [.int u.sz, .int u.dy, .int u.rb, .int u.ins, .int u.fo, .int u.fl, .int u.uw, .int u.lo, .ref hk, .ref hf, .ref hw, .ref ht])), (hk, .inl (cI, 9, .inl u.kd)), (hf, .inl (cI, 9, .inl u.fg)), (hw, .inl (cI, 9, .inl u.wn)), (ht, .inl (cI, 4, .inl u.tl))])) (va_A [(h, .inr (1, [.int u.sz, .int u.dy, .int u.rb, .int u.ins, .int u.fo, .int u.fl, .int u.uw, .int u.lo, .ref hk, .ref hf, .ref hw, .ref ht])), (hk, .inl (cI, 9, .inl u.kd)), (hf, .inl (cI, 9, .inl u.fg)), (hw, .inl (cI, 9, .inl u.wn)), (ht, .inl (cI, 4, .inl u.tl))] sz)) 0 0 (va_A [(h, .inr (1, [.int u.sz, .int u.dy, .int u.rb, .int u.ins, .int u.fo, .int u.fl, .int u.uw, .int u.lo, .ref hk, .ref hf, .ref hw, .ref ht])), (hk, .inl (cI, 9, .inl u.kd)), (hf, .inl (cI, 9, .inl u.fg)), (hw, .inl (cI, 9, .inl u.wn)), (ht, .inl (cI, 4, .inl u.tl))] sz) := by
  refine st_rwi (cc := cX2_turnOver) (maxL := 2) (rt := .int) (by decide) rfl (Nat.le_of_ble_eq_true rfl) (fun _ _ _ => rfl) ?_
  intro p e s m below meth c Q ls A hx hb hml hts hown hP hK hD hA hS hl hret
  replace hown : s.vm.findClass RX2 = some m.cls := hown
  replace hl : lv_has ls 2 [(0, .ref h), (1, .int p0)] := hl
  obtain ⟨H, hH⟩ : ∃ z, z = s.heap := ⟨_, rfl⟩
  obtain ⟨locs, hlo⟩ : ∃ z : List Loc, z = [] := ⟨_, rfl⟩
  replace hP : va_P D vwCl [(h, .inr (1, [.int u.sz, .int u.dy, .int u.rb, .int u.ins, .int u.fo, .int u.fl, .int u.uw, .int u.lo, .ref hk, .ref hf, .ref hw, .ref ht])), (hk, .inl (cI, 9, .inl u.kd)), (hf, .inl (cI, 9, .inl u.fg)), (hw, .inl (cI, 9, .inl u.wn)), (ht, .inl (cI, 4, .inl u.tl))] H := by rw [hH]; exact hP
  replace hS : va_S A s.heap H locs := by rw [hH, hlo]; exact hS
  show W p l e ({ frames := 0, cells := 0, slots := 0, locals := 0 }) s m [.ref h, .int p0].toArray below meth c s.heap [] 0 0 Q (F0 m 0 ls [])
  rw [← hlo]
  suffices hgo : W p l e ({ frames := 0, cells := 0, slots := 0, locals := 0 }) s m [.ref h, .int p0].toArray below meth c H locs 0 0 Q (F0 m 0 ls []) by rw [hH] at hgo; exact hgo
  clear hH hlo
  have hi_X2 : ∀ w ∈ wsX20, w ∈ wsX2_turnOver := fun w h => List.mem_cons_of_mem _ (List.mem_append_right _ (h))
  have hk_21 := hts (.fieldLink RX2 21 "NestsOfTalk$Talk" "inside" "I") (List.mem_of_getElem? (i := 1) rfl)
  have hn9 := hR.le
  refine lv_aload_n hx hb dX2_turnOver_0 rfl (lv_at hl 0 rfl) ?_
  refine lv_dup hx hb dX2_turnOver_1 rfl ?_
  refine va_get (D := D) (ci := 1) (v := .int u.ins) (C := RX2) (T := TX2) (N := 12) hx hb hts hi_X2 hown hK.1 hP 0 rfl rfl 3 (by decide) hk_21 (fun _ h9 => h9) rfl dX2_turnOver_2 ?_
  refine lv_iconst (v := 1) hx hb dX2_turnOver_5 (by decide) ?_
  refine lv_iload_n hx hb dX2_turnOver_6 rfl (lv_at hl 1 rfl) ?_
  refine lv_ishl hx hb dX2_turnOver_7 ?_
  refine lv_ixor hx hb dX2_turnOver_8 ?_
  refine lv_topi (fun x_1 ex_1 => ?_)
  refine va_put (D := D) (ci := 1) (v := .int x_1) (ty := .int) (C := RX2) (T := TX2) (N := 12) hx hb hts hi_X2 tyX2 tyX2_ok nmX2 hown hK.1 hP hD hS 0 rfl rfl 3 (by decide) hk_21 (fun _ h9 => h9) rfl pd_I rfl rfl (Nat.le_of_ble_eq_true rfl) dX2_turnOver_9 (fun H locs hP hD hS => ?_)
  have hP : va_P D vwCl [(h, .inr (1, [.int u.sz, .int u.dy, .int u.rb, .int x_1, .int u.fo, .int u.fl, .int u.uw, .int u.lo, .ref hk, .ref hf, .ref hw, .ref ht])), (hk, .inl (cI, 9, .inl u.kd)), (hf, .inl (cI, 9, .inl u.fg)), (hw, .inl (cI, 9, .inl u.wn)), (ht, .inl (cI, 4, .inl u.tl))] H := hP
  have hD : va_D A [(h, .inr (1, [.int u.sz, .int u.dy, .int u.rb, .int x_1, .int u.fo, .int u.fl, .int u.uw, .int u.lo, .ref hk, .ref hf, .ref hw, .ref ht])), (hk, .inl (cI, 9, .inl u.kd)), (hf, .inl (cI, 9, .inl u.fg)), (hw, .inl (cI, 9, .inl u.wn)), (ht, .inl (cI, 4, .inl u.tl))] := hD
  refine lv_aload_n hx hb dX2_turnOver_12 rfl (lv_at hl 0 rfl) ?_
  refine va_get (D := D) (ci := 1) (v := .int x_1) (C := RX2) (T := TX2) (N := 12) hx hb hts hi_X2 hown hK.1 hP 0 rfl rfl 3 (by decide) hk_21 (fun _ h9 => h9) rfl dX2_turnOver_13 ?_
  refine lv_iload_n hx hb dX2_turnOver_16 rfl (lv_at hl 1 rfl) ?_
  refine lv_ishr hx hb dX2_turnOver_17 ?_
  refine lv_iconst (v := 1) hx hb dX2_turnOver_18 (by decide) ?_
  refine lv_iand hx hb dX2_turnOver_19 ?_
  exact hret 20 _ ((x_1 >>> (p0 &&& 31)) &&& 1) (u.sz, u.dy, u.rb, x_1, u.fo, u.fl, u.uw, u.lo, u.kd, u.fg, u.wn, u.tl) _ _ dX2_turnOver_20 (by clear hret hP hK hts hown hx hb hml hl hD hA hS hk_21 hi_X2; subst_vars; exact ⟨hx_val _ (by omega), rfl⟩) hP hD hS

set_option maxHeartbeats 4000000 in
set_option maxRecDepth 100000 in
theorem kX2_leaveOut (l : Launch) (D : va_G) (cI : ClassId) (sz : Nat) (h hk hf hw ht : Nat) (u : TK) (r : RR) (n : Nat) (hR : Rep n r u) (p0 : Int32) (t0 : Nat) (hp0 : p0 = nI t0) (ht0 : t0 < n) : Met l yX2_leaveOut wsX2_leaveOut ({ frames := 0, cells := 0, slots := 0, locals := 0 }) (PRW D cI [.ref h, .int p0] [(h, .inr (1, [.int u.sz, .int u.dy, .int u.rb, .int u.ins, .int u.fo, .int u.fl, .int u.uw, .int u.lo, .ref hk, .ref hf, .ref hw, .ref ht])), (hk, .inl (cI, 9, .inl u.kd)), (hf, .inl (cI, 9, .inl u.fg)), (hw, .inl (cI, 9, .inl u.wn)), (ht, .inl (cI, 4, .inl u.tl))] sz) (va_Qv (S := TK) (fun u2 => u2 = (u.sz, u.dy, u.rb, u.ins &&& ((u.lo ||| b1 t0) ^^^ (-1)), u.fo, u.fl, u.uw, u.lo ||| b1 t0, u.kd, u.fg, u.wn, u.tl)) (BRW D [(h, .inr (1, [.int u.sz, .int u.dy, .int u.rb, .int u.ins, .int u.fo, .int u.fl, .int u.uw, .int u.lo, .ref hk, .ref hf, .ref hw, .ref ht])), (hk, .inl (cI, 9, .inl u.kd)), (hf, .inl (cI, 9, .inl u.fg)), (hw, .inl (cI, 9, .inl u.wn)), (ht, .inl (cI, 4, .inl u.tl))] sz (fun u => [(h, .inr (1, [.int u.sz, .int u.dy, .int u.rb, .int u.ins, .int u.fo, .int u.fl, .int u.uw, .int u.lo, .ref hk, .ref hf, .ref hw, .ref ht])), (hk, .inl (cI, 9, .inl u.kd)), (hf, .inl (cI, 9, .inl u.fg)), (hw, .inl (cI, 9, .inl u.wn)), (ht, .inl (cI, 4, .inl u.tl))])) (va_A [(h, .inr (1, [.int u.sz, .int u.dy, .int u.rb, .int u.ins, .int u.fo, .int u.fl, .int u.uw, .int u.lo, .ref hk, .ref hf, .ref hw, .ref ht])), (hk, .inl (cI, 9, .inl u.kd)), (hf, .inl (cI, 9, .inl u.fg)), (hw, .inl (cI, 9, .inl u.wn)), (ht, .inl (cI, 4, .inl u.tl))] sz)) 0 0 (va_A [(h, .inr (1, [.int u.sz, .int u.dy, .int u.rb, .int u.ins, .int u.fo, .int u.fl, .int u.uw, .int u.lo, .ref hk, .ref hf, .ref hw, .ref ht])), (hk, .inl (cI, 9, .inl u.kd)), (hf, .inl (cI, 9, .inl u.fg)), (hw, .inl (cI, 9, .inl u.wn)), (ht, .inl (cI, 4, .inl u.tl))] sz) := by
  refine st_rwv (cc := cX2_leaveOut) (maxL := 2) (by decide) rfl (Nat.le_of_ble_eq_true rfl) ?_
  intro p e s m below meth c Q ls A hx hb hml hts hown hP hK hD hA hS hl hret
  replace hown : s.vm.findClass RX2 = some m.cls := hown
  replace hl : lv_has ls 2 [(0, .ref h), (1, .int p0)] := hl
  obtain ⟨H, hH⟩ : ∃ z, z = s.heap := ⟨_, rfl⟩
  obtain ⟨locs, hlo⟩ : ∃ z : List Loc, z = [] := ⟨_, rfl⟩
  replace hP : va_P D vwCl [(h, .inr (1, [.int u.sz, .int u.dy, .int u.rb, .int u.ins, .int u.fo, .int u.fl, .int u.uw, .int u.lo, .ref hk, .ref hf, .ref hw, .ref ht])), (hk, .inl (cI, 9, .inl u.kd)), (hf, .inl (cI, 9, .inl u.fg)), (hw, .inl (cI, 9, .inl u.wn)), (ht, .inl (cI, 4, .inl u.tl))] H := by rw [hH]; exact hP
  replace hS : va_S A s.heap H locs := by rw [hH, hlo]; exact hS
  show W p l e ({ frames := 0, cells := 0, slots := 0, locals := 0 }) s m [.ref h, .int p0].toArray below meth c s.heap [] 0 0 Q (F0 m 0 ls [])
  rw [← hlo]
  suffices hgo : W p l e ({ frames := 0, cells := 0, slots := 0, locals := 0 }) s m [.ref h, .int p0].toArray below meth c H locs 0 0 Q (F0 m 0 ls []) by rw [hH] at hgo; exact hgo
  clear hH hlo
  have hi_X2 : ∀ w ∈ wsX20, w ∈ wsX2_leaveOut := fun w h => List.mem_cons_of_mem _ (List.mem_append_right _ (h))
  have hk_33 := hts (.fieldLink RX2 33 "NestsOfTalk$Talk" "leftOut" "I") (List.mem_of_getElem? (i := 1) rfl)
  have hk_21 := hts (.fieldLink RX2 21 "NestsOfTalk$Talk" "inside" "I") (List.mem_of_getElem? (i := 2) rfl)
  have hn9 := hR.le
  refine lv_aload_n hx hb dX2_leaveOut_0 rfl (lv_at hl 0 rfl) ?_
  refine lv_dup hx hb dX2_leaveOut_1 rfl ?_
  refine va_get (D := D) (ci := 1) (v := .int u.lo) (C := RX2) (T := TX2) (N := 12) hx hb hts hi_X2 hown hK.1 hP 0 rfl rfl 7 (by decide) hk_33 (fun _ h9 => h9) rfl dX2_leaveOut_2 ?_
  refine lv_iconst (v := 1) hx hb dX2_leaveOut_5 (by decide) ?_
  refine lv_iload_n hx hb dX2_leaveOut_6 rfl (lv_at hl 1 rfl) ?_
  refine lv_ishl hx hb dX2_leaveOut_7 ?_
  refine lv_ior hx hb dX2_leaveOut_8 ?_
  refine lv_topi (fun x_1 ex_1 => ?_)
  refine va_put (D := D) (ci := 1) (v := .int x_1) (ty := .int) (C := RX2) (T := TX2) (N := 12) hx hb hts hi_X2 tyX2 tyX2_ok nmX2 hown hK.1 hP hD hS 0 rfl rfl 7 (by decide) hk_33 (fun _ h9 => h9) rfl pd_I rfl rfl (Nat.le_of_ble_eq_true rfl) dX2_leaveOut_9 (fun H locs hP hD hS => ?_)
  have hP : va_P D vwCl [(h, .inr (1, [.int u.sz, .int u.dy, .int u.rb, .int u.ins, .int u.fo, .int u.fl, .int u.uw, .int x_1, .ref hk, .ref hf, .ref hw, .ref ht])), (hk, .inl (cI, 9, .inl u.kd)), (hf, .inl (cI, 9, .inl u.fg)), (hw, .inl (cI, 9, .inl u.wn)), (ht, .inl (cI, 4, .inl u.tl))] H := hP
  have hD : va_D A [(h, .inr (1, [.int u.sz, .int u.dy, .int u.rb, .int u.ins, .int u.fo, .int u.fl, .int u.uw, .int x_1, .ref hk, .ref hf, .ref hw, .ref ht])), (hk, .inl (cI, 9, .inl u.kd)), (hf, .inl (cI, 9, .inl u.fg)), (hw, .inl (cI, 9, .inl u.wn)), (ht, .inl (cI, 4, .inl u.tl))] := hD
  refine lv_aload_n hx hb dX2_leaveOut_12 rfl (lv_at hl 0 rfl) ?_
  refine lv_dup hx hb dX2_leaveOut_13 rfl ?_
  refine va_get (D := D) (ci := 1) (v := .int u.ins) (C := RX2) (T := TX2) (N := 12) hx hb hts hi_X2 hown hK.1 hP 0 rfl rfl 3 (by decide) hk_21 (fun _ h9 => h9) rfl dX2_leaveOut_14 ?_
  refine lv_aload_n hx hb dX2_leaveOut_17 rfl (lv_at hl 0 rfl) ?_
  refine va_get (D := D) (ci := 1) (v := .int x_1) (C := RX2) (T := TX2) (N := 12) hx hb hts hi_X2 hown hK.1 hP 0 rfl rfl 7 (by decide) hk_33 (fun _ h9 => h9) rfl dX2_leaveOut_18 ?_
  refine lv_iconst (v := (-1)) hx hb dX2_leaveOut_21 (by decide) ?_
  refine lv_ixor hx hb dX2_leaveOut_22 ?_
  refine lv_iand hx hb dX2_leaveOut_23 ?_
  refine lv_topi (fun x_2 ex_2 => ?_)
  refine va_put (D := D) (ci := 1) (v := .int x_2) (ty := .int) (C := RX2) (T := TX2) (N := 12) hx hb hts hi_X2 tyX2 tyX2_ok nmX2 hown hK.1 hP hD hS 0 rfl rfl 3 (by decide) hk_21 (fun _ h9 => h9) rfl pd_I rfl rfl (Nat.le_of_ble_eq_true rfl) dX2_leaveOut_24 (fun H locs hP hD hS => ?_)
  have hP : va_P D vwCl [(h, .inr (1, [.int u.sz, .int u.dy, .int u.rb, .int x_2, .int u.fo, .int u.fl, .int u.uw, .int x_1, .ref hk, .ref hf, .ref hw, .ref ht])), (hk, .inl (cI, 9, .inl u.kd)), (hf, .inl (cI, 9, .inl u.fg)), (hw, .inl (cI, 9, .inl u.wn)), (ht, .inl (cI, 4, .inl u.tl))] H := hP
  have hD : va_D A [(h, .inr (1, [.int u.sz, .int u.dy, .int u.rb, .int x_2, .int u.fo, .int u.fl, .int u.uw, .int x_1, .ref hk, .ref hf, .ref hw, .ref ht])), (hk, .inl (cI, 9, .inl u.kd)), (hf, .inl (cI, 9, .inl u.fg)), (hw, .inl (cI, 9, .inl u.wn)), (ht, .inl (cI, 4, .inl u.tl))] := hD
  exact hret 27 _ (u.sz, u.dy, u.rb, x_2, u.fo, u.fl, u.uw, x_1, u.kd, u.fg, u.wn, u.tl) _ _ dX2_leaveOut_27 (by clear hret hP hK hts hown hx hb hml hl hD hA hS hk_33 hk_21 hi_X2; subst_vars; rfl) hP hD hS

set_option maxHeartbeats 4000000 in
set_option maxRecDepth 100000 in
theorem kX2_sayAbout (l : Launch) (D : va_G) (cI : ClassId) (sz : Nat) (h hk hf hw ht : Nat) (u : TK) (r : RR) (n : Nat) (hR : Rep n r u) (p0 : Int32) (t0 : Nat) (hp0 : p0 = nI t0) (ht0 : t0 < n) (p1 : Int32) (t1 : Nat) (hp1 : p1 = nI t1) (ht1 : t1 < 4) : Met l yX2_sayAbout wsX2_sayAbout ({ frames := 1, cells := 0, slots := 0, locals := 21 }) (PRW D cI [.ref h, .int p0, .int p1] [(h, .inr (1, [.int u.sz, .int u.dy, .int u.rb, .int u.ins, .int u.fo, .int u.fl, .int u.uw, .int u.lo, .ref hk, .ref hf, .ref hw, .ref ht])), (hk, .inl (cI, 9, .inl u.kd)), (hf, .inl (cI, 9, .inl u.fg)), (hw, .inl (cI, 9, .inl u.wn)), (ht, .inl (cI, 4, .inl u.tl))] sz) (va_Qv (S := TK) (fun u2 => u2 = (u.sz, u.dy, u.rb, u.ins &&& (b1 t0 ^^^ (-1)), u.fo, u.fl, u.uw, u.lo, u.kd, u.fg, u.wn, saF u.tl t0 t1)) (BRW D [(h, .inr (1, [.int u.sz, .int u.dy, .int u.rb, .int u.ins, .int u.fo, .int u.fl, .int u.uw, .int u.lo, .ref hk, .ref hf, .ref hw, .ref ht])), (hk, .inl (cI, 9, .inl u.kd)), (hf, .inl (cI, 9, .inl u.fg)), (hw, .inl (cI, 9, .inl u.wn)), (ht, .inl (cI, 4, .inl u.tl))] sz (fun u => [(h, .inr (1, [.int u.sz, .int u.dy, .int u.rb, .int u.ins, .int u.fo, .int u.fl, .int u.uw, .int u.lo, .ref hk, .ref hf, .ref hw, .ref ht])), (hk, .inl (cI, 9, .inl u.kd)), (hf, .inl (cI, 9, .inl u.fg)), (hw, .inl (cI, 9, .inl u.wn)), (ht, .inl (cI, 4, .inl u.tl))])) (va_A [(h, .inr (1, [.int u.sz, .int u.dy, .int u.rb, .int u.ins, .int u.fo, .int u.fl, .int u.uw, .int u.lo, .ref hk, .ref hf, .ref hw, .ref ht])), (hk, .inl (cI, 9, .inl u.kd)), (hf, .inl (cI, 9, .inl u.fg)), (hw, .inl (cI, 9, .inl u.wn)), (ht, .inl (cI, 4, .inl u.tl))] sz)) 0 0 (va_A [(h, .inr (1, [.int u.sz, .int u.dy, .int u.rb, .int u.ins, .int u.fo, .int u.fl, .int u.uw, .int u.lo, .ref hk, .ref hf, .ref hw, .ref ht])), (hk, .inl (cI, 9, .inl u.kd)), (hf, .inl (cI, 9, .inl u.fg)), (hw, .inl (cI, 9, .inl u.wn)), (ht, .inl (cI, 4, .inl u.tl))] sz) := by
  refine st_rwv (cc := cX2_sayAbout) (maxL := 5) (by decide) rfl (Nat.le_of_ble_eq_true rfl) ?_
  intro p e s m below meth c Q ls A hx hb hml hts hown hP hK hD hA hS hl hret
  replace hown : s.vm.findClass RX2 = some m.cls := hown
  replace hl : lv_has ls 5 [(0, .ref h), (1, .int p0), (2, .int p1)] := hl
  obtain ⟨H, hH⟩ : ∃ z, z = s.heap := ⟨_, rfl⟩
  obtain ⟨locs, hlo⟩ : ∃ z : List Loc, z = [] := ⟨_, rfl⟩
  replace hP : va_P D vwCl [(h, .inr (1, [.int u.sz, .int u.dy, .int u.rb, .int u.ins, .int u.fo, .int u.fl, .int u.uw, .int u.lo, .ref hk, .ref hf, .ref hw, .ref ht])), (hk, .inl (cI, 9, .inl u.kd)), (hf, .inl (cI, 9, .inl u.fg)), (hw, .inl (cI, 9, .inl u.wn)), (ht, .inl (cI, 4, .inl u.tl))] H := by rw [hH]; exact hP
  replace hS : va_S A s.heap H locs := by rw [hH, hlo]; exact hS
  show W p l e ({ frames := 1, cells := 0, slots := 0, locals := 21 }) s m [.ref h, .int p0, .int p1].toArray below meth c s.heap [] 0 0 Q (F0 m 0 ls [])
  rw [← hlo]
  suffices hgo : W p l e ({ frames := 1, cells := 0, slots := 0, locals := 21 }) s m [.ref h, .int p0, .int p1].toArray below meth c H locs 0 0 Q (F0 m 0 ls []) by rw [hH] at hgo; exact hgo
  clear hH hlo
  have hi_X2 : ∀ w ∈ wsX20, w ∈ wsX2_sayAbout := fun w h => List.mem_cons_of_mem _ (List.mem_append_right _ (h))
  have hini3 := hts (.initialized RX3) (List.mem_of_getElem? (i := 10) rfl)
  have hst3 := hts (.static yX3_isWoman) (List.mem_of_getElem? (i := 9) rfl)
  have hk_46 := hts (.fieldLink RX2 46 "NestsOfTalk$Talk" "told" "[I") (List.mem_of_getElem? (i := 1) rfl)
  have hk_21 := hts (.fieldLink RX2 21 "NestsOfTalk$Talk" "inside" "I") (List.mem_of_getElem? (i := 2) rfl)
  have hn9 := hR.le
  refine lv_aload_n hx hb dX2_sayAbout_0 rfl (lv_at hl 0 rfl) ?_
  refine lv_iload_n hx hb dX2_sayAbout_1 rfl (lv_at hl 1 rfl) ?_
  refine xc_Vi (As := [.int p0]) (rest := []) ⟨hx, hb, hml, hown, hts⟩ (kX2_knows l D cI h hk hf hw ht u r n hR p0) (cwV 1 hts gX2_sayAbout_X2_knows rfl rfl rfl hv_X2_knows ⟨Nat.le_of_ble_eq_true rfl, Nat.le_of_ble_eq_true rfl⟩) hK hP [0, 1, 2, 3, 4] rfl 0 rfl rfl rfl hl.1 rfl (Nat.le_of_ble_eq_true rfl) dX2_sayAbout_2 ⟨Nat.zero_le _, Nat.zero_le _⟩ (fun r_1 hr_1 => ?_)
  refine lv_if_eq (tgt := 15) hx hb dX2_sayAbout_5 (by decide) (fun c_2 => ?_) (fun c_2 => ?_)
  · skip
    have hb_2 : sayB n p0 = false := bool_f hr_1 c_2
    exact absurd c_2 (by rw [hr_1, if_pos ((sayB_iff hR.le).2 ⟨t0, ht0, hp0⟩)]; decide)
  have hb_2 : sayB n p0 = true := bool_t hr_1 c_2
  refine lv_iload_n hx hb dX2_sayAbout_8 rfl (lv_at hl 2 rfl) ?_
  refine xc_Ni (As := [.int p1]) (rest := []) ⟨hx, hb, hml, hown, hts⟩ (kX3_isWoman l D cI p1) ⟨va_cnB 1 hts gX2_sayAbout_X3_isWoman_n74 rfl rfl rfl hK.2.2.2.1 hini3 hs_X3_isWoman ⟨Nat.le_of_ble_eq_true rfl, Nat.le_of_ble_eq_true rfl⟩, hst3, trivial⟩ hK hP [] rfl rfl hl.1 rfl (Nat.le_of_ble_eq_true rfl) dX2_sayAbout_9 ⟨Nat.zero_le _, Nat.zero_le _⟩ (fun r_3 hr_3 => ?_)
  refine lv_if_ne (tgt := 16) hx hb dX2_sayAbout_12 (by decide) (fun c_4 => ?_) (fun c_4 => ?_)
  · skip
    have hb_4 : womB p1 = true := bool_t hr_3 c_4
    refine lv_iconst (v := 1) hx hb dX2_sayAbout_16 (by decide) ?_
    refine lv_iload_n hx hb dX2_sayAbout_17 rfl (lv_at hl 1 rfl) ?_
    refine lv_ishl hx hb dX2_sayAbout_18 ?_
    refine lv_topi (fun x_5 ex_5 => ?_)
    refine lv_istore_n (lv' := [(3, .int x_5), (0, .ref h), (1, .int p0), (2, .int p1)]) hx hb dX2_sayAbout_19 rfl hl (by decide) rfl (fun ls hl => ?_)
    refine lv_iconst (v := 0) hx hb dX2_sayAbout_20 (by decide) ?_
    refine lv_istore (lv' := [(4, .int 0), (3, .int x_5), (0, .ref h), (1, .int p0), (2, .int p1)]) hx hb dX2_sayAbout_21 hl (by decide) rfl (fun ls hl => ?_)
    have lp_23_6 : ∀ (fu : Nat) (i : Nat) (x4 : Int32) (w : Nat → Int32) (ls : Array Slot) (H : Heap) (locs : List Loc), 4 - i < fu → (x4 = nI i) → (i ≤ 4) → (w = clT u.tl (b1 t0) i) → va_P D vwCl [(h, .inr (1, [.int u.sz, .int u.dy, .int u.rb, .int u.ins, .int u.fo, .int u.fl, .int u.uw, .int u.lo, .ref hk, .ref hf, .ref hw, .ref ht])), (hk, .inl (cI, 9, .inl u.kd)), (hf, .inl (cI, 9, .inl u.fg)), (hw, .inl (cI, 9, .inl u.wn)), (ht, .inl (cI, 4, .inl w))] H → va_D A [(h, .inr (1, [.int u.sz, .int u.dy, .int u.rb, .int u.ins, .int u.fo, .int u.fl, .int u.uw, .int u.lo, .ref hk, .ref hf, .ref hw, .ref ht])), (hk, .inl (cI, 9, .inl u.kd)), (hf, .inl (cI, 9, .inl u.fg)), (hw, .inl (cI, 9, .inl u.wn)), (ht, .inl (cI, 4, .inl w))] → va_S A s.heap H locs → lv_has ls 5 [(4, .int x4), (3, .int x_5), (0, .ref h), (1, .int p0), (2, .int p1)] → W p l e ({ frames := 1, cells := 0, slots := 0, locals := 21 }) s m [.ref h, .int p0, .int p1].toArray below meth c H locs 0 0 Q (F0 m 23 ls []) := by
      intro fu
      induction fu with
      | zero =>
        intro i x4 w ls H locs hfu
        exact absurd hfu (Nat.not_lt_zero _)
      | succ fu ih_6 =>
        intro i x4 w ls H locs hfu hx4 hi hw2 hP hD hS hl
        refine lv_iload hx hb dX2_sayAbout_23 (lv_at hl 0 rfl) ?_
        refine lv_iconst (v := 4) hx hb dX2_sayAbout_25 (by decide) ?_
        refine lv_icmp_ge (tgt := 48) hx hb dX2_sayAbout_26 (by decide) (fun c_7 => ?_) (fun c_7 => ?_)
        · skip
          have n_7 : 4 ≤ i := (ni_le (a := 4) (b := i) (rfl : (4 : Int32) = nI 4) hx4 (by decide) (by omega)).mp c_7
          refine lv_aload_n hx hb dX2_sayAbout_48 rfl (lv_at hl 2 rfl) ?_
          refine va_get (D := D) (ci := 1) (v := .ref ht) (C := RX2) (T := TX2) (N := 12) hx hb hts hi_X2 hown hK.1 hP 0 rfl rfl 11 (by decide) hk_46 (fun _ h9 => h9) rfl dX2_sayAbout_49 ?_
          refine lv_iload_n hx hb dX2_sayAbout_52 rfl (lv_at hl 4 rfl) ?_
          refine lv_dup2_11 hx hb dX2_sayAbout_53 rfl rfl ?_
          refine xa_ld hx hb hK hP 4 rfl (j := t1) hp1 (by omega) (by decide) dX2_sayAbout_54 ?_
          refine lv_iload_n hx hb dX2_sayAbout_55 rfl (lv_at hl 1 rfl) ?_
          refine lv_ior hx hb dX2_sayAbout_56 ?_
          refine xa_st hx hb hK hP hD hS 4 rfl (j := t1) hp1 (by omega) (by decide) dX2_sayAbout_57 (fun H locs hP hD hS => ?_)
          obtain ⟨f_8, ef_8⟩ : ∃ z : Nat → Int32, z = upd w t1 ((w t1) ||| x_5) := ⟨_, rfl⟩
          replace hP : va_P D vwCl [(h, .inr (1, [.int u.sz, .int u.dy, .int u.rb, .int u.ins, .int u.fo, .int u.fl, .int u.uw, .int u.lo, .ref hk, .ref hf, .ref hw, .ref ht])), (hk, .inl (cI, 9, .inl u.kd)), (hf, .inl (cI, 9, .inl u.fg)), (hw, .inl (cI, 9, .inl u.wn)), (ht, .inl (cI, 4, .inl (upd w t1 ((w t1) ||| x_5))))] H := hP
          replace hD : va_D A [(h, .inr (1, [.int u.sz, .int u.dy, .int u.rb, .int u.ins, .int u.fo, .int u.fl, .int u.uw, .int u.lo, .ref hk, .ref hf, .ref hw, .ref ht])), (hk, .inl (cI, 9, .inl u.kd)), (hf, .inl (cI, 9, .inl u.fg)), (hw, .inl (cI, 9, .inl u.wn)), (ht, .inl (cI, 4, .inl (upd w t1 ((w t1) ||| x_5))))] := hD
          rw [← ef_8] at hP hD
          refine lv_aload_n hx hb dX2_sayAbout_58 rfl (lv_at hl 2 rfl) ?_
          refine lv_dup hx hb dX2_sayAbout_59 rfl ?_
          refine va_get (D := D) (ci := 1) (v := .int u.ins) (C := RX2) (T := TX2) (N := 12) hx hb hts hi_X2 hown hK.1 hP 0 rfl rfl 3 (by decide) hk_21 (fun _ h9 => h9) rfl dX2_sayAbout_60 ?_
          refine lv_iload_n hx hb dX2_sayAbout_63 rfl (lv_at hl 1 rfl) ?_
          refine lv_iconst (v := (-1)) hx hb dX2_sayAbout_64 (by decide) ?_
          refine lv_ixor hx hb dX2_sayAbout_65 ?_
          refine lv_iand hx hb dX2_sayAbout_66 ?_
          refine lv_topi (fun x_9 ex_9 => ?_)
          refine va_put (D := D) (ci := 1) (v := .int x_9) (ty := .int) (C := RX2) (T := TX2) (N := 12) hx hb hts hi_X2 tyX2 tyX2_ok nmX2 hown hK.1 hP hD hS 0 rfl rfl 3 (by decide) hk_21 (fun _ h9 => h9) rfl pd_I rfl rfl (Nat.le_of_ble_eq_true rfl) dX2_sayAbout_67 (fun H locs hP hD hS => ?_)
          have hP : va_P D vwCl [(h, .inr (1, [.int u.sz, .int u.dy, .int u.rb, .int x_9, .int u.fo, .int u.fl, .int u.uw, .int u.lo, .ref hk, .ref hf, .ref hw, .ref ht])), (hk, .inl (cI, 9, .inl u.kd)), (hf, .inl (cI, 9, .inl u.fg)), (hw, .inl (cI, 9, .inl u.wn)), (ht, .inl (cI, 4, .inl f_8))] H := hP
          have hD : va_D A [(h, .inr (1, [.int u.sz, .int u.dy, .int u.rb, .int x_9, .int u.fo, .int u.fl, .int u.uw, .int u.lo, .ref hk, .ref hf, .ref hw, .ref ht])), (hk, .inl (cI, 9, .inl u.kd)), (hf, .inl (cI, 9, .inl u.fg)), (hw, .inl (cI, 9, .inl u.wn)), (ht, .inl (cI, 4, .inl f_8))] := hD
          exact hret 70 _ (u.sz, u.dy, u.rb, x_9, u.fo, u.fl, u.uw, u.lo, u.kd, u.fg, u.wn, f_8) _ _ dX2_sayAbout_70 (by have e9 : i = 4 := (by omega); subst e9; clear ih_6; clear hret hP hK hts hown hx hb hml hl hD hA hS hini3 hst3 hk_46 hk_21 hi_X2; subst_vars; rfl) hP hD hS
        have n_7 : ¬ 4 ≤ i := fun q => c_7 ((ni_le (a := 4) (b := i) (rfl : (4 : Int32) = nI 4) hx4 (by decide) (by omega)).mpr q)
        refine lv_aload_n hx hb dX2_sayAbout_29 rfl (lv_at hl 2 rfl) ?_
        refine va_get (D := D) (ci := 1) (v := .ref ht) (C := RX2) (T := TX2) (N := 12) hx hb hts hi_X2 hown hK.1 hP 0 rfl rfl 11 (by decide) hk_46 (fun _ h9 => h9) rfl dX2_sayAbout_30 ?_
        refine lv_iload hx hb dX2_sayAbout_33 (lv_at hl 0 rfl) ?_
        refine lv_dup2_11 hx hb dX2_sayAbout_35 rfl rfl ?_
        refine xa_ld hx hb hK hP 4 rfl (j := i) hx4 (by omega) (by decide) dX2_sayAbout_36 ?_
        refine lv_iload_n hx hb dX2_sayAbout_37 rfl (lv_at hl 1 rfl) ?_
        refine lv_iconst (v := (-1)) hx hb dX2_sayAbout_38 (by decide) ?_
        refine lv_ixor hx hb dX2_sayAbout_39 ?_
        refine lv_iand hx hb dX2_sayAbout_40 ?_
        refine xa_st hx hb hK hP hD hS 4 rfl (j := i) hx4 (by omega) (by decide) dX2_sayAbout_41 (fun H locs hP hD hS => ?_)
        obtain ⟨f_10, ef_10⟩ : ∃ z : Nat → Int32, z = upd w i ((w i) &&& (x_5 ^^^ (-1))) := ⟨_, rfl⟩
        replace hP : va_P D vwCl [(h, .inr (1, [.int u.sz, .int u.dy, .int u.rb, .int u.ins, .int u.fo, .int u.fl, .int u.uw, .int u.lo, .ref hk, .ref hf, .ref hw, .ref ht])), (hk, .inl (cI, 9, .inl u.kd)), (hf, .inl (cI, 9, .inl u.fg)), (hw, .inl (cI, 9, .inl u.wn)), (ht, .inl (cI, 4, .inl (upd w i ((w i) &&& (x_5 ^^^ (-1))))))] H := hP
        replace hD : va_D A [(h, .inr (1, [.int u.sz, .int u.dy, .int u.rb, .int u.ins, .int u.fo, .int u.fl, .int u.uw, .int u.lo, .ref hk, .ref hf, .ref hw, .ref ht])), (hk, .inl (cI, 9, .inl u.kd)), (hf, .inl (cI, 9, .inl u.fg)), (hw, .inl (cI, 9, .inl u.wn)), (ht, .inl (cI, 4, .inl (upd w i ((w i) &&& (x_5 ^^^ (-1))))))] := hD
        rw [← ef_10] at hP hD
        obtain ⟨x_11, ex_11⟩ : ∃ z : Int32, z = x4 + 1 := ⟨_, rfl⟩
        refine lv_iinc (v := x_11) (lv' := [(4, .int x_11), (3, .int x_5), (0, .ref h), (1, .int p0), (2, .int p1)]) hx hb dX2_sayAbout_42 hl (k := 0) rfl (by rw [ex_11]; rfl) (by decide) rfl (fun ls hl => ?_)
        refine lv_goto (tgt := 23) hx hb dX2_sayAbout_45 (by decide) ?_
        exact ih_6 (i + 1) x_11 f_10 _ _ _ (by omega) (ni_add (a := i) (b := 1) ex_11 hx4 (rfl : (1 : Int32) = nI 1)) (by omega) (by clear ih_6; clear hret hP hK hts hown hx hb hml hl hD hA hS hini3 hst3 hk_46 hk_21 hi_X2; subst_vars; rfl) hP hD hS (lv_sub hl [0, 1, 2, 3, 4] rfl)
    exact lp_23_6 ((4 - 0) + 1) 0 0 u.tl _ _ _ (by omega) (rfl : (0 : Int32) = nI 0) (by omega) rfl hP hD hS (lv_sub hl [0, 1, 2, 3, 4] rfl)
  have hb_4 : womB p1 = false := bool_f hr_3 c_4
  exact absurd c_4 (by rw [hr_3, if_pos (womB_iff.2 ⟨t1, ht1, hp1⟩)]; decide)


theorem hs_X2_tellMore : yX2_tellMore.cls ≠ "java/lang/invoke/MethodHandle" ∧ yX2_tellMore.cls ≠ "java/lang/invoke/VarHandle" ∧ (parseMethodDescriptor yX2_tellMore.desc).map (fun d => d.parameters.length) = some 3 := by decide +kernel
theorem hv_X2_tellMore : yX2_tellMore.cls = RX2 ∧ yX2_tellMore.cls ≠ "java/lang/invoke/MethodHandle" ∧ yX2_tellMore.cls ≠ "java/lang/invoke/VarHandle" ∧ (parseMethodDescriptor yX2_tellMore.desc).map (fun d => d.parameters.length) = some 3 := ⟨rfl, hs_X2_tellMore⟩
theorem hs_X2_fewestMoved : yX2_fewestMoved.cls ≠ "java/lang/invoke/MethodHandle" ∧ yX2_fewestMoved.cls ≠ "java/lang/invoke/VarHandle" ∧ (parseMethodDescriptor yX2_fewestMoved.desc).map (fun d => d.parameters.length) = some 2 := by decide +kernel
theorem hv_X2_fewestMoved : yX2_fewestMoved.cls = RX2 ∧ yX2_fewestMoved.cls ≠ "java/lang/invoke/MethodHandle" ∧ yX2_fewestMoved.cls ≠ "java/lang/invoke/VarHandle" ∧ (parseMethodDescriptor yX2_fewestMoved.desc).map (fun d => d.parameters.length) = some 2 := ⟨rfl, hs_X2_fewestMoved⟩
theorem hs_X2_softestHolding : yX2_softestHolding.cls ≠ "java/lang/invoke/MethodHandle" ∧ yX2_softestHolding.cls ≠ "java/lang/invoke/VarHandle" ∧ (parseMethodDescriptor yX2_softestHolding.desc).map (fun d => d.parameters.length) = some 1 := by decide +kernel
theorem hv_X2_softestHolding : yX2_softestHolding.cls = RX2 ∧ yX2_softestHolding.cls ≠ "java/lang/invoke/MethodHandle" ∧ yX2_softestHolding.cls ≠ "java/lang/invoke/VarHandle" ∧ (parseMethodDescriptor yX2_softestHolding.desc).map (fun d => d.parameters.length) = some 1 := ⟨rfl, hs_X2_softestHolding⟩
set_option maxHeartbeats 4000000 in
set_option maxRecDepth 100000 in
theorem kX2_tellMore (l : Launch) (D : va_G) (cI : ClassId) (sz : Nat) (h hk hf hw ht : Nat) (u : TK) (r : RR) (n : Nat) (hR : Rep n r u) (p0 p1 p2 : Int32) (t0 : Nat) (hp0 : p0 = nI t0) (ht0 : t0 < 6) (t1 : Nat) (hp1 : p1 = nI t1) (ht1 : t1 < 10) (hlo : u.lo = 0) (huw : u.uw = 0) (hk3 : r 3 = -9) : Met l yX2_tellMore wsX2_tellMore ({ frames := 2, cells := 0, slots := 0, locals := 45 }) (PRW D cI [.ref h, .int p0, .int p1, .int p2] [(h, .inr (1, [.int u.sz, .int u.dy, .int u.rb, .int u.ins, .int u.fo, .int u.fl, .int u.uw, .int u.lo, .ref hk, .ref hf, .ref hw, .ref ht])), (hk, .inl (cI, 9, .inl u.kd)), (hf, .inl (cI, 9, .inl u.fg)), (hw, .inl (cI, 9, .inl u.wn)), (ht, .inl (cI, 4, .inl u.tl))] sz) (va_Qi (S := TK) (fun v u2 => (n < 9 ∧ v = 1 ∧ ∃ w, w < 4 ∧ p2 = nI w ∧ u2 = tmT u n p0 p1 w) ∨ ((¬ n < 9 ∨ womB p2 = false) ∧ v = 0 ∧ u2 = u)) (BRW D [(h, .inr (1, [.int u.sz, .int u.dy, .int u.rb, .int u.ins, .int u.fo, .int u.fl, .int u.uw, .int u.lo, .ref hk, .ref hf, .ref hw, .ref ht])), (hk, .inl (cI, 9, .inl u.kd)), (hf, .inl (cI, 9, .inl u.fg)), (hw, .inl (cI, 9, .inl u.wn)), (ht, .inl (cI, 4, .inl u.tl))] sz (fun u => [(h, .inr (1, [.int u.sz, .int u.dy, .int u.rb, .int u.ins, .int u.fo, .int u.fl, .int u.uw, .int u.lo, .ref hk, .ref hf, .ref hw, .ref ht])), (hk, .inl (cI, 9, .inl u.kd)), (hf, .inl (cI, 9, .inl u.fg)), (hw, .inl (cI, 9, .inl u.wn)), (ht, .inl (cI, 4, .inl u.tl))])) (va_A [(h, .inr (1, [.int u.sz, .int u.dy, .int u.rb, .int u.ins, .int u.fo, .int u.fl, .int u.uw, .int u.lo, .ref hk, .ref hf, .ref hw, .ref ht])), (hk, .inl (cI, 9, .inl u.kd)), (hf, .inl (cI, 9, .inl u.fg)), (hw, .inl (cI, 9, .inl u.wn)), (ht, .inl (cI, 4, .inl u.tl))] sz)) 0 0 (va_A [(h, .inr (1, [.int u.sz, .int u.dy, .int u.rb, .int u.ins, .int u.fo, .int u.fl, .int u.uw, .int u.lo, .ref hk, .ref hf, .ref hw, .ref ht])), (hk, .inl (cI, 9, .inl u.kd)), (hf, .inl (cI, 9, .inl u.fg)), (hw, .inl (cI, 9, .inl u.wn)), (ht, .inl (cI, 4, .inl u.tl))] sz) := by
  refine st_rwi (cc := cX2_tellMore) (maxL := 4) (rt := .boolean) (by decide) rfl (Nat.le_of_ble_eq_true rfl) (by rintro v u (⟨_, h, _⟩ | ⟨_, h, _⟩) <;> (subst h; rfl)) ?_
  intro p e s m below meth c Q ls A hx hb hml hts hown hP hK hD hA hS hl hret
  replace hown : s.vm.findClass RX2 = some m.cls := hown
  replace hl : lv_has ls 4 [(0, .ref h), (1, .int p0), (2, .int p1), (3, .int p2)] := hl
  obtain ⟨H, hH⟩ : ∃ z, z = s.heap := ⟨_, rfl⟩
  obtain ⟨locs, hlo⟩ : ∃ z : List Loc, z = [] := ⟨_, rfl⟩
  replace hP : va_P D vwCl [(h, .inr (1, [.int u.sz, .int u.dy, .int u.rb, .int u.ins, .int u.fo, .int u.fl, .int u.uw, .int u.lo, .ref hk, .ref hf, .ref hw, .ref ht])), (hk, .inl (cI, 9, .inl u.kd)), (hf, .inl (cI, 9, .inl u.fg)), (hw, .inl (cI, 9, .inl u.wn)), (ht, .inl (cI, 4, .inl u.tl))] H := by rw [hH]; exact hP
  replace hS : va_S A s.heap H locs := by rw [hH, hlo]; exact hS
  show W p l e ({ frames := 2, cells := 0, slots := 0, locals := 45 }) s m [.ref h, .int p0, .int p1, .int p2].toArray below meth c s.heap [] 0 0 Q (F0 m 0 ls [])
  rw [← hlo]
  suffices hgo : W p l e ({ frames := 2, cells := 0, slots := 0, locals := 45 }) s m [.ref h, .int p0, .int p1, .int p2].toArray below meth c H locs 0 0 Q (F0 m 0 ls []) by rw [hH] at hgo; exact hgo
  clear hH hlo
  have hi_X2 : ∀ w ∈ wsX20, w ∈ wsX2_tellMore := fun w h => List.mem_cons_of_mem _ (List.mem_append_right _ (h))
  have hk_9 := hts (.fieldLink RX2 9 "NestsOfTalk$Talk" "size" "I") (List.mem_of_getElem? (i := 1) rfl)
  have hini3 := hts (.initialized RX3) (List.mem_of_getElem? (i := 6) rfl)
  have hst3 := hts (.static yX3_isWoman) (List.mem_of_getElem? (i := 5) rfl)
  have hk_36 := hts (.fieldLink RX2 36 "NestsOfTalk$Talk" "kind" "[I") (List.mem_of_getElem? (i := 2) rfl)
  have hk_40 := hts (.fieldLink RX2 40 "NestsOfTalk$Talk" "figure" "[I") (List.mem_of_getElem? (i := 3) rfl)
  have hk_43 := hts (.fieldLink RX2 43 "NestsOfTalk$Talk" "worn" "[I") (List.mem_of_getElem? (i := 4) rfl)
  have hn9 := hR.le
  refine lv_aload_n hx hb dX2_tellMore_0 rfl (lv_at hl 0 rfl) ?_
  refine va_get (D := D) (ci := 1) (v := .int u.sz) (C := RX2) (T := TX2) (N := 12) hx hb hts hi_X2 hown hK.1 hP 0 rfl rfl 0 (by decide) hk_9 (fun _ h9 => h9) rfl dX2_tellMore_1 ?_
  refine lv_bipush (v := 9) hx hb dX2_tellMore_4 (by decide) ?_
  refine lv_icmp_ge (tgt := 16) hx hb dX2_tellMore_6 (by decide) (fun c_1 => ?_) (fun c_1 => ?_)
  · skip
    have n_1 : 9 ≤ n := (ni_le (a := 9) (b := n) (rfl : (9 : Int32) = nI 9) hR.hsz (by decide) (by omega)).mp c_1
    refine lv_iconst (v := 0) hx hb dX2_tellMore_16 (by decide) ?_
    exact hret 17 _ 0 u _ _ dX2_tellMore_17 (Or.inr ⟨Or.inl (by omega), rfl, rfl⟩) hP hD hS
  have n_1 : ¬ 9 ≤ n := fun q => c_1 ((ni_le (a := 9) (b := n) (rfl : (9 : Int32) = nI 9) hR.hsz (by decide) (by omega)).mpr q)
  refine lv_iload_n hx hb dX2_tellMore_9 rfl (lv_at hl 3 rfl) ?_
  refine xc_Ni (As := [.int p2]) (rest := []) ⟨hx, hb, hml, hown, hts⟩ (kX3_isWoman l D cI p2) ⟨va_cnB 1 hts gX2_tellMore_X3_isWoman_n74 rfl rfl rfl hK.2.2.2.1 hini3 hs_X3_isWoman ⟨Nat.le_of_ble_eq_true rfl, Nat.le_of_ble_eq_true rfl⟩, hst3, trivial⟩ hK hP [] rfl rfl hl.1 rfl (Nat.le_of_ble_eq_true rfl) dX2_tellMore_10 ⟨Nat.zero_le _, Nat.zero_le _⟩ (fun r_2 hr_2 => ?_)
  refine lv_if_ne (tgt := 18) hx hb dX2_tellMore_13 (by decide) (fun c_3 => ?_) (fun c_3 => ?_)
  · skip
    have hb_3 : womB p2 = true := bool_t hr_2 c_3
    obtain ⟨w_3, hw_3, ew_3⟩ := womB_iff.1 hb_3
    refine lv_aload_n hx hb dX2_tellMore_18 rfl (lv_at hl 0 rfl) ?_
    refine va_get (D := D) (ci := 1) (v := .ref hk) (C := RX2) (T := TX2) (N := 12) hx hb hts hi_X2 hown hK.1 hP 0 rfl rfl 8 (by decide) hk_36 (fun _ h9 => h9) rfl dX2_tellMore_19 ?_
    refine lv_aload_n hx hb dX2_tellMore_22 rfl (lv_at hl 0 rfl) ?_
    refine va_get (D := D) (ci := 1) (v := .int u.sz) (C := RX2) (T := TX2) (N := 12) hx hb hts hi_X2 hown hK.1 hP 0 rfl rfl 0 (by decide) hk_9 (fun _ h9 => h9) rfl dX2_tellMore_23 ?_
    refine lv_iload_n hx hb dX2_tellMore_26 rfl (lv_at hl 1 rfl) ?_
    refine xa_st hx hb hK hP hD hS 1 rfl (j := n) hR.hsz (by omega) (by decide) dX2_tellMore_27 (fun H locs hP hD hS => ?_)
    obtain ⟨f_4, ef_4⟩ : ∃ z : Nat → Int32, z = upd u.kd n p0 := ⟨_, rfl⟩
    replace hP : va_P D vwCl [(h, .inr (1, [.int u.sz, .int u.dy, .int u.rb, .int u.ins, .int u.fo, .int u.fl, .int u.uw, .int u.lo, .ref hk, .ref hf, .ref hw, .ref ht])), (hk, .inl (cI, 9, .inl (upd u.kd n p0))), (hf, .inl (cI, 9, .inl u.fg)), (hw, .inl (cI, 9, .inl u.wn)), (ht, .inl (cI, 4, .inl u.tl))] H := hP
    replace hD : va_D A [(h, .inr (1, [.int u.sz, .int u.dy, .int u.rb, .int u.ins, .int u.fo, .int u.fl, .int u.uw, .int u.lo, .ref hk, .ref hf, .ref hw, .ref ht])), (hk, .inl (cI, 9, .inl (upd u.kd n p0))), (hf, .inl (cI, 9, .inl u.fg)), (hw, .inl (cI, 9, .inl u.wn)), (ht, .inl (cI, 4, .inl u.tl))] := hD
    rw [← ef_4] at hP hD
    refine lv_aload_n hx hb dX2_tellMore_28 rfl (lv_at hl 0 rfl) ?_
    refine va_get (D := D) (ci := 1) (v := .ref hf) (C := RX2) (T := TX2) (N := 12) hx hb hts hi_X2 hown hK.1 hP 0 rfl rfl 9 (by decide) hk_40 (fun _ h9 => h9) rfl dX2_tellMore_29 ?_
    refine lv_aload_n hx hb dX2_tellMore_32 rfl (lv_at hl 0 rfl) ?_
    refine va_get (D := D) (ci := 1) (v := .int u.sz) (C := RX2) (T := TX2) (N := 12) hx hb hts hi_X2 hown hK.1 hP 0 rfl rfl 0 (by decide) hk_9 (fun _ h9 => h9) rfl dX2_tellMore_33 ?_
    refine lv_iload_n hx hb dX2_tellMore_36 rfl (lv_at hl 2 rfl) ?_
    refine xa_st hx hb hK hP hD hS 2 rfl (j := n) hR.hsz (by omega) (by decide) dX2_tellMore_37 (fun H locs hP hD hS => ?_)
    obtain ⟨f_5, ef_5⟩ : ∃ z : Nat → Int32, z = upd u.fg n p1 := ⟨_, rfl⟩
    replace hP : va_P D vwCl [(h, .inr (1, [.int u.sz, .int u.dy, .int u.rb, .int u.ins, .int u.fo, .int u.fl, .int u.uw, .int u.lo, .ref hk, .ref hf, .ref hw, .ref ht])), (hk, .inl (cI, 9, .inl f_4)), (hf, .inl (cI, 9, .inl (upd u.fg n p1))), (hw, .inl (cI, 9, .inl u.wn)), (ht, .inl (cI, 4, .inl u.tl))] H := hP
    replace hD : va_D A [(h, .inr (1, [.int u.sz, .int u.dy, .int u.rb, .int u.ins, .int u.fo, .int u.fl, .int u.uw, .int u.lo, .ref hk, .ref hf, .ref hw, .ref ht])), (hk, .inl (cI, 9, .inl f_4)), (hf, .inl (cI, 9, .inl (upd u.fg n p1))), (hw, .inl (cI, 9, .inl u.wn)), (ht, .inl (cI, 4, .inl u.tl))] := hD
    rw [← ef_5] at hP hD
    refine lv_aload_n hx hb dX2_tellMore_38 rfl (lv_at hl 0 rfl) ?_
    refine va_get (D := D) (ci := 1) (v := .ref hw) (C := RX2) (T := TX2) (N := 12) hx hb hts hi_X2 hown hK.1 hP 0 rfl rfl 10 (by decide) hk_43 (fun _ h9 => h9) rfl dX2_tellMore_39 ?_
    refine lv_aload_n hx hb dX2_tellMore_42 rfl (lv_at hl 0 rfl) ?_
    refine va_get (D := D) (ci := 1) (v := .int u.sz) (C := RX2) (T := TX2) (N := 12) hx hb hts hi_X2 hown hK.1 hP 0 rfl rfl 0 (by decide) hk_9 (fun _ h9 => h9) rfl dX2_tellMore_43 ?_
    refine lv_iconst (v := 0) hx hb dX2_tellMore_46 (by decide) ?_
    refine xa_st hx hb hK hP hD hS 3 rfl (j := n) hR.hsz (by omega) (by decide) dX2_tellMore_47 (fun H locs hP hD hS => ?_)
    obtain ⟨f_6, ef_6⟩ : ∃ z : Nat → Int32, z = upd u.wn n 0 := ⟨_, rfl⟩
    replace hP : va_P D vwCl [(h, .inr (1, [.int u.sz, .int u.dy, .int u.rb, .int u.ins, .int u.fo, .int u.fl, .int u.uw, .int u.lo, .ref hk, .ref hf, .ref hw, .ref ht])), (hk, .inl (cI, 9, .inl f_4)), (hf, .inl (cI, 9, .inl f_5)), (hw, .inl (cI, 9, .inl (upd u.wn n 0))), (ht, .inl (cI, 4, .inl u.tl))] H := hP
    replace hD : va_D A [(h, .inr (1, [.int u.sz, .int u.dy, .int u.rb, .int u.ins, .int u.fo, .int u.fl, .int u.uw, .int u.lo, .ref hk, .ref hf, .ref hw, .ref ht])), (hk, .inl (cI, 9, .inl f_4)), (hf, .inl (cI, 9, .inl f_5)), (hw, .inl (cI, 9, .inl (upd u.wn n 0))), (ht, .inl (cI, 4, .inl u.tl))] := hD
    rw [← ef_6] at hP hD
    refine lv_aload_n hx hb dX2_tellMore_48 rfl (lv_at hl 0 rfl) ?_
    refine lv_dup hx hb dX2_tellMore_49 rfl ?_
    refine va_get (D := D) (ci := 1) (v := .int u.sz) (C := RX2) (T := TX2) (N := 12) hx hb hts hi_X2 hown hK.1 hP 0 rfl rfl 0 (by decide) hk_9 (fun _ h9 => h9) rfl dX2_tellMore_50 ?_
    refine lv_iconst (v := 1) hx hb dX2_tellMore_53 (by decide) ?_
    refine lv_iadd hx hb dX2_tellMore_54 ?_
    refine lv_topi (fun x_7 ex_7 => ?_)
    refine va_put (D := D) (ci := 1) (v := .int x_7) (ty := .int) (C := RX2) (T := TX2) (N := 12) hx hb hts hi_X2 tyX2 tyX2_ok nmX2 hown hK.1 hP hD hS 0 rfl rfl 0 (by decide) hk_9 (fun _ h9 => h9) rfl pd_I rfl rfl (Nat.le_of_ble_eq_true rfl) dX2_tellMore_55 (fun H locs hP hD hS => ?_)
    have hP : va_P D vwCl [(h, .inr (1, [.int x_7, .int u.dy, .int u.rb, .int u.ins, .int u.fo, .int u.fl, .int u.uw, .int u.lo, .ref hk, .ref hf, .ref hw, .ref ht])), (hk, .inl (cI, 9, .inl f_4)), (hf, .inl (cI, 9, .inl f_5)), (hw, .inl (cI, 9, .inl f_6)), (ht, .inl (cI, 4, .inl u.tl))] H := hP
    have hD : va_D A [(h, .inr (1, [.int x_7, .int u.dy, .int u.rb, .int u.ins, .int u.fo, .int u.fl, .int u.uw, .int u.lo, .ref hk, .ref hf, .ref hw, .ref ht])), (hk, .inl (cI, 9, .inl f_4)), (hf, .inl (cI, 9, .inl f_5)), (hw, .inl (cI, 9, .inl f_6)), (ht, .inl (cI, 4, .inl u.tl))] := hD
    have hn1 : n < 9 := by omega
    have hR1 : Rep (n + 1) (addR r n (nI t0) (nI t1) (-9)) (x_7, u.dy, u.rb, u.ins, u.fo, u.fl, u.uw, u.lo, f_4, f_5, f_6, u.tl) := by
      have h9 := hR.more0 hlo huw hk3 hn1 ht0 ht1
      rw [ex_7, ef_4, ef_5, ef_6, hp0, hp1]; exact h9
    have hx1 : x_7 - 1 = nI n := by rw [ex_7, hR.hsz]; exact add_sub1 _
    refine lv_aload_n hx hb dX2_tellMore_58 rfl (lv_at hl 0 rfl) ?_
    refine lv_aload_n hx hb dX2_tellMore_59 rfl (lv_at hl 0 rfl) ?_
    refine va_get (D := D) (ci := 1) (v := .int x_7) (C := RX2) (T := TX2) (N := 12) hx hb hts hi_X2 hown hK.1 hP 0 rfl rfl 0 (by decide) hk_9 (fun _ h9 => h9) rfl dX2_tellMore_60 ?_
    refine lv_iconst (v := 1) hx hb dX2_tellMore_63 (by decide) ?_
    refine lv_isub hx hb dX2_tellMore_64 ?_
    refine lv_iload_n hx hb dX2_tellMore_65 rfl (lv_at hl 3 rfl) ?_
    refine xw_Vv (As := [.int (x_7 - 1), .int p2]) (rest := []) (Wn := fun u => [(h, .inr (1, [.int u.sz, .int u.dy, .int u.rb, .int u.ins, .int u.fo, .int u.fl, .int u.uw, .int u.lo, .ref hk, .ref hf, .ref hw, .ref ht])), (hk, .inl (cI, 9, .inl u.kd)), (hf, .inl (cI, 9, .inl u.fg)), (hw, .inl (cI, 9, .inl u.wn)), (ht, .inl (cI, 4, .inl u.tl))]) (Wr := []) ⟨hx, hb, hml, hown, hts⟩ (kX2_sayAbout l D cI H.size h hk hf hw ht (x_7, u.dy, u.rb, u.ins, u.fo, u.fl, u.uw, u.lo, f_4, f_5, f_6, u.tl) (addR r n (nI t0) (nI t1) (-9)) (n + 1) hR1 (x_7 - 1) n hx1 (by omega) p2 w_3 ew_3 (by omega)) (cwV 2 hts gX2_tellMore_X2_sayAbout rfl rfl rfl hv_X2_sayAbout ⟨Nat.le_of_ble_eq_true rfl, Nat.le_of_ble_eq_true rfl⟩) hK hP hD hS hA [0, 1, 2, 3, 4] [] [0, 1, 2, 3, 4] rfl rfl (by decide) (by decide) (by decide) (by decide) (fun u => rfl) 0 rfl rfl rfl hl.1 rfl (Nat.le_of_ble_eq_true rfl) dX2_tellMore_66 ⟨Nat.zero_le _, Nat.zero_le _⟩ (fun u_8 H locs hw_8 hP hD hS => ?_)
    refine lv_iconst (v := 1) hx hb dX2_tellMore_69 (by decide) ?_
    exact hret 70 _ 1 u_8 _ _ dX2_tellMore_70 (Or.inl ⟨hn1, rfl, w_3, by omega, ew_3, by rw [hw_8, ex_7, ef_4, ef_5, ef_6]; rfl⟩) hP hD hS
  have hb_3 : womB p2 = false := bool_f hr_2 c_3
  refine lv_iconst (v := 0) hx hb dX2_tellMore_16 (by decide) ?_
  exact hret 17 _ 0 u _ _ dX2_tellMore_17 (Or.inr ⟨Or.inr hb_3, rfl, rfl⟩) hP hD hS

set_option maxHeartbeats 4000000 in
set_option maxRecDepth 100000 in
theorem kX2_fewestMoved (l : Launch) (D : va_G) (cI : ClassId) (h hk hf hw ht : Nat) (u : TK) (r : RR) (n : Nat) (hR : Rep n r u) (p0 : Int32) (p1 : Int32) : Met l yX2_fewestMoved wsX2_fewestMoved ({ frames := 2, cells := 0, slots := 0, locals := 45 }) (PRO D cI [.ref h, .int p0, .int p1] [(h, .inr (1, [.int u.sz, .int u.dy, .int u.rb, .int u.ins, .int u.fo, .int u.fl, .int u.uw, .int u.lo, .ref hk, .ref hf, .ref hw, .ref ht])), (hk, .inl (cI, 9, .inl u.kd)), (hf, .inl (cI, 9, .inl u.fg)), (hw, .inl (cI, 9, .inl u.wn)), (ht, .inl (cI, 4, .inl u.tl))]) (vp_Si (fun v => v = (fmS r n p0 p1 (2 ^ n)).1)) 0 0 (fun _ => False) := by
  refine st_roi (cc := cX2_fewestMoved) (maxL := 7) (rt := .int) (by decide) rfl (Nat.le_of_ble_eq_true rfl) (fun _ _ => rfl) ?_
  intro p e s m below meth c Q ls hx hb hml hts hown hP hK hl hret
  replace hown : s.vm.findClass RX2 = some m.cls := hown
  replace hl : lv_has ls 7 [(0, .ref h), (1, .int p0), (2, .int p1)] := hl
  have hi_X2 : ∀ w ∈ wsX20, w ∈ wsX2_fewestMoved := fun w h => List.mem_cons_of_mem _ (List.mem_append_right _ (h))
  have hk_9 := hts (.fieldLink RX2 9 "NestsOfTalk$Talk" "size" "I") (List.mem_of_getElem? (i := 1) rfl)
  have hn9 := hR.le
  have h2n := two_le hn9
  have h2p : 1 ≤ 2 ^ n := Nat.one_le_two_pow
  refine lv_bipush (v := (-9)) hx hb dX2_fewestMoved_0 (by decide) ?_
  refine lv_istore_n (lv' := [(3, .int (-9)), (0, .ref h), (1, .int p0), (2, .int p1)]) hx hb dX2_fewestMoved_2 rfl hl (by decide) rfl (fun ls hl => ?_)
  refine lv_bipush (v := 10) hx hb dX2_fewestMoved_3 (by decide) ?_
  refine lv_istore (lv' := [(4, .int 10), (3, .int (-9)), (0, .ref h), (1, .int p0), (2, .int p1)]) hx hb dX2_fewestMoved_5 hl (by decide) rfl (fun ls hl => ?_)
  refine lv_iconst (v := 0) hx hb dX2_fewestMoved_7 (by decide) ?_
  refine lv_istore (lv' := [(5, .int 0), (4, .int 10), (3, .int (-9)), (0, .ref h), (1, .int p0), (2, .int p1)]) hx hb dX2_fewestMoved_8 hl (by decide) rfl (fun ls hl => ?_)
  have lp_10_1 : ∀ (fu : Nat) (j : Nat) (x5 : Int32) (x4 : Int32) (x3 : Int32) (ls : Array Slot), 2 ^ n - j < fu → (x5 = nI j) → (j ≤ 2 ^ n) → (x3 = (fmS r n p0 p1 j).1) → (x4 = nI (fmS r n p0 p1 j).2) → lv_has ls 7 [(5, .int x5), (4, .int x4), (3, .int x3), (0, .ref h), (1, .int p0), (2, .int p1)] → W p l e ({ frames := 2, cells := 0, slots := 0, locals := 45 }) s m [.ref h, .int p0, .int p1].toArray below meth c s.heap [] 0 0 Q (F0 m 10 ls []) := by
    intro fu
    induction fu with
    | zero =>
      intro j x5 x4 x3 ls hfu
      exact absurd hfu (Nat.not_lt_zero _)
    | succ fu ih_1 =>
      intro j x5 x4 x3 ls hfu hx5 hm hx3 hx4 hl
      have hb4 := fmS_le r n p0 p1 j
      refine lv_iload hx hb dX2_fewestMoved_10 (lv_at hl 0 rfl) ?_
      refine lv_iconst (v := 1) hx hb dX2_fewestMoved_12 (by decide) ?_
      refine lv_aload_n hx hb dX2_fewestMoved_13 rfl (lv_at hl 3 rfl) ?_
      refine va_get (D := D) (ci := 1) (v := .int u.sz) (C := RX2) (T := TX2) (N := 12) hx hb hts hi_X2 hown hK.1 hP 0 rfl rfl 0 (by decide) hk_9 (fun _ h9 => h9) rfl dX2_fewestMoved_14 ?_
      refine lv_ishl hx hb dX2_fewestMoved_17 ?_
      refine lv_icmp_ge (tgt := 68) hx hb dX2_fewestMoved_18 (by decide) (fun c_2 => ?_) (fun c_2 => ?_)
      · skip
        have n_2 : (2 ^ n) ≤ j := (ni_le (a := (2 ^ n)) (b := j) (sh_1 hR.hsz hn9) hx5 (by omega) (by omega)).mp c_2
        refine lv_iload_n hx hb dX2_fewestMoved_68 rfl (lv_at hl 2 rfl) ?_
        exact hret 69 _ x3 dX2_fewestMoved_69 (by have e9 : j = 2 ^ n := (by omega); rw [← e9]; exact hx3)
      have n_2 : ¬ (2 ^ n) ≤ j := fun q => c_2 ((ni_le (a := (2 ^ n)) (b := j) (sh_1 hR.hsz hn9) hx5 (by omega) (by omega)).mpr q)
      refine lv_iload hx hb dX2_fewestMoved_21 (lv_at hl 0 rfl) ?_
      refine xc_Si (As := [.int x5]) (rest := []) ⟨hx, hb, hml, hown, hts⟩ (kJ6_bitCount_0f7a4 l D cI x5) (va_cwS 1 hts gX2_fewestMoved_J6_bitCount_0f7a4 rfl rfl rfl hs_J6_bitCount_0f7a4 ⟨Nat.le_of_ble_eq_true rfl, Nat.le_of_ble_eq_true rfl⟩) hK hP [] rfl rfl hl.1 rfl (Nat.le_of_ble_eq_true rfl) dX2_fewestMoved_23 ⟨Nat.zero_le _, Nat.zero_le _⟩ (fun r_3 hr_3 => ?_)
      have hbc_3 : r_3 = nI (cntN (nI j) 10) := by rw [hr_3, hx5]; exact bcF_small j (by omega)
      have hbl_3 := cntN_le (nI j) 10
      refine lv_istore (lv' := [(6, .int r_3), (5, .int x5), (4, .int x4), (3, .int x3), (0, .ref h), (1, .int p0), (2, .int p1)]) hx hb dX2_fewestMoved_26 hl (by decide) rfl (fun ls hl => ?_)
      refine lv_iload hx hb dX2_fewestMoved_28 (lv_at hl 1 rfl) ?_
      refine lv_iload_n hx hb dX2_fewestMoved_30 rfl (lv_at hl 6 rfl) ?_
      refine lv_iconst (v := (-1)) hx hb dX2_fewestMoved_31 (by decide) ?_
      refine lv_ixor hx hb dX2_fewestMoved_32 ?_
      refine lv_iand hx hb dX2_fewestMoved_33 ?_
      refine lv_if_ne (tgt := 62) hx hb dX2_fewestMoved_34 (by decide) (fun c_4 => ?_) (fun c_4 => ?_)
      · skip
        obtain ⟨x_5, ex_5⟩ : ∃ z : Int32, z = x5 + 1 := ⟨_, rfl⟩
        refine lv_iinc (v := x_5) (lv' := [(5, .int x_5), (6, .int r_3), (4, .int x4), (3, .int x3), (0, .ref h), (1, .int p0), (2, .int p1)]) hx hb dX2_fewestMoved_62 hl (k := 1) rfl (by rw [ex_5]; rfl) (by decide) rfl (fun ls hl => ?_)
        refine lv_goto (tgt := 10) hx hb dX2_fewestMoved_65 (by decide) ?_
        exact ih_1 (j + 1) x_5 x4 x3 _ (by omega) (ni_add (a := j) (b := 1) ex_5 hx5 (rfl : (1 : Int32) = nI 1)) (by omega) (by rw [hx5] at c_4; rw [fmS, if_neg (fun q => c_4 q.1)]; exact hx3) (by rw [hx5] at c_4; rw [fmS, if_neg (fun q => c_4 q.1)]; exact hx4) (lv_sub hl [0, 2, 3, 4, 5, 6] rfl)
      refine lv_iload hx hb dX2_fewestMoved_37 (lv_at hl 0 rfl) ?_
      refine lv_iload hx hb dX2_fewestMoved_39 (lv_at hl 2 rfl) ?_
      refine lv_icmp_ge (tgt := 62) hx hb dX2_fewestMoved_41 (by decide) (fun c_6 => ?_) (fun c_6 => ?_)
      · skip
        have n_6 : (fmS r n p0 p1 j).2 ≤ (cntN (nI j) 10) := (ni_le (a := (fmS r n p0 p1 j).2) (b := (cntN (nI j) 10)) hx4 hbc_3 (by omega) (by omega)).mp c_6
        obtain ⟨x_7, ex_7⟩ : ∃ z : Int32, z = x5 + 1 := ⟨_, rfl⟩
        refine lv_iinc (v := x_7) (lv' := [(5, .int x_7), (6, .int r_3), (4, .int x4), (3, .int x3), (0, .ref h), (1, .int p0), (2, .int p1)]) hx hb dX2_fewestMoved_62 hl (k := 1) rfl (by rw [ex_7]; rfl) (by decide) rfl (fun ls hl => ?_)
        refine lv_goto (tgt := 10) hx hb dX2_fewestMoved_65 (by decide) ?_
        exact ih_1 (j + 1) x_7 x4 x3 _ (by omega) (ni_add (a := j) (b := 1) ex_7 hx5 (rfl : (1 : Int32) = nI 1)) (by omega) (by rw [fmS, if_neg (fun q => absurd q.2.1 (by omega))]; exact hx3) (by rw [fmS, if_neg (fun q => absurd q.2.1 (by omega))]; exact hx4) (lv_sub hl [0, 2, 3, 4, 5, 6] rfl)
      have n_6 : ¬ (fmS r n p0 p1 j).2 ≤ (cntN (nI j) 10) := fun q => c_6 ((ni_le (a := (fmS r n p0 p1 j).2) (b := (cntN (nI j) 10)) hx4 hbc_3 (by omega) (by omega)).mpr q)
      refine lv_aload_n hx hb dX2_fewestMoved_44 rfl (lv_at hl 4 rfl) ?_
      refine lv_iload_n hx hb dX2_fewestMoved_45 rfl (lv_at hl 5 rfl) ?_
      refine lv_iload hx hb dX2_fewestMoved_46 (lv_at hl 1 rfl) ?_
      refine lv_ixor hx hb dX2_fewestMoved_48 ?_
      refine xc_Vi (As := [.int (p0 ^^^ x5)]) (rest := []) ⟨hx, hb, hml, hown, hts⟩ (kX2_holds l D cI h hk hf hw ht u r n hR (p0 ^^^ x5)) (cwV 1 hts gX2_fewestMoved_X2_holds rfl rfl rfl hv_X2_holds ⟨Nat.le_of_ble_eq_true rfl, Nat.le_of_ble_eq_true rfl⟩) hK hP [0, 1, 2, 3, 4] rfl 0 rfl rfl rfl hl.1 rfl (Nat.le_of_ble_eq_true rfl) dX2_fewestMoved_49 ⟨Nat.zero_le _, Nat.zero_le _⟩ (fun r_8 hr_8 => ?_)
      refine lv_if_eq (tgt := 62) hx hb dX2_fewestMoved_52 (by decide) (fun c_9 => ?_) (fun c_9 => ?_)
      · skip
        have hb_9 : hld r n (p0 ^^^ x5) = false := bool_f hr_8 c_9
        obtain ⟨x_10, ex_10⟩ : ∃ z : Int32, z = x5 + 1 := ⟨_, rfl⟩
        refine lv_iinc (v := x_10) (lv' := [(5, .int x_10), (6, .int r_3), (4, .int x4), (3, .int x3), (0, .ref h), (1, .int p0), (2, .int p1)]) hx hb dX2_fewestMoved_62 hl (k := 1) rfl (by rw [ex_10]; rfl) (by decide) rfl (fun ls hl => ?_)
        refine lv_goto (tgt := 10) hx hb dX2_fewestMoved_65 (by decide) ?_
        exact ih_1 (j + 1) x_10 x4 x3 _ (by omega) (ni_add (a := j) (b := 1) ex_10 hx5 (rfl : (1 : Int32) = nI 1)) (by omega) (by rw [hx5] at hb_9; rw [fmS, if_neg (fun q => by rw [hb_9] at q; cases q.2.2)]; exact hx3) (by rw [hx5] at hb_9; rw [fmS, if_neg (fun q => by rw [hb_9] at q; cases q.2.2)]; exact hx4) (lv_sub hl [0, 2, 3, 4, 5, 6] rfl)
      have hb_9 : hld r n (p0 ^^^ x5) = true := bool_t hr_8 c_9
      refine lv_iload hx hb dX2_fewestMoved_55 (lv_at hl 1 rfl) ?_
      refine lv_istore_n (lv' := [(3, .int x5), (6, .int r_3), (5, .int x5), (4, .int x4), (0, .ref h), (1, .int p0), (2, .int p1)]) hx hb dX2_fewestMoved_57 rfl hl (by decide) rfl (fun ls hl => ?_)
      refine lv_iload hx hb dX2_fewestMoved_58 (lv_at hl 1 rfl) ?_
      refine lv_istore (lv' := [(4, .int r_3), (3, .int x5), (6, .int r_3), (5, .int x5), (0, .ref h), (1, .int p0), (2, .int p1)]) hx hb dX2_fewestMoved_60 hl (by decide) rfl (fun ls hl => ?_)
      obtain ⟨x_11, ex_11⟩ : ∃ z : Int32, z = x5 + 1 := ⟨_, rfl⟩
      refine lv_iinc (v := x_11) (lv' := [(5, .int x_11), (4, .int r_3), (3, .int x5), (6, .int r_3), (0, .ref h), (1, .int p0), (2, .int p1)]) hx hb dX2_fewestMoved_62 hl (k := 3) rfl (by rw [ex_11]; rfl) (by decide) rfl (fun ls hl => ?_)
      refine lv_goto (tgt := 10) hx hb dX2_fewestMoved_65 (by decide) ?_
      exact ih_1 (j + 1) x_11 r_3 x5 _ (by omega) (ni_add (a := j) (b := 1) ex_11 hx5 (rfl : (1 : Int32) = nI 1)) (by omega) (by rw [hx5] at c_4 hb_9; rw [fmS, if_pos ⟨c_4, by omega, hb_9⟩]; exact hx5) (by rw [hx5] at c_4 hb_9; rw [fmS, if_pos ⟨c_4, by omega, hb_9⟩]; exact hbc_3) (lv_sub hl [0, 1, 2, 4, 5, 6] rfl)
  exact lp_10_1 ((2 ^ n - 0) + 1) 0 0 10 (-9) _ (by omega) (rfl : (0 : Int32) = nI 0) (by omega) rfl rfl (lv_sub hl [0, 1, 2, 3, 4, 5] rfl)

set_option maxHeartbeats 4000000 in
set_option maxRecDepth 100000 in
theorem kX2_softestHolding (l : Launch) (D : va_G) (cI : ClassId) (h hk hf hw ht : Nat) (u : TK) (r : RR) (n : Nat) (hR : Rep n r u) (p0 : Int32) : Met l yX2_softestHolding wsX2_softestHolding ({ frames := 2, cells := 0, slots := 0, locals := 45 }) (PRO D cI [.ref h, .int p0] [(h, .inr (1, [.int u.sz, .int u.dy, .int u.rb, .int u.ins, .int u.fo, .int u.fl, .int u.uw, .int u.lo, .ref hk, .ref hf, .ref hw, .ref ht])), (hk, .inl (cI, 9, .inl u.kd)), (hf, .inl (cI, 9, .inl u.fg)), (hw, .inl (cI, 9, .inl u.wn)), (ht, .inl (cI, 4, .inl u.tl))]) (vp_Si (fun v => v = (shS r n p0 (2 ^ n - 1)).1)) 0 0 (fun _ => False) := by
  refine st_roi (cc := cX2_softestHolding) (maxL := 5) (rt := .int) (by decide) rfl (Nat.le_of_ble_eq_true rfl) (fun _ _ => rfl) ?_
  intro p e s m below meth c Q ls hx hb hml hts hown hP hK hl hret
  replace hown : s.vm.findClass RX2 = some m.cls := hown
  replace hl : lv_has ls 5 [(0, .ref h), (1, .int p0)] := hl
  have hi_X2 : ∀ w ∈ wsX20, w ∈ wsX2_softestHolding := fun w h => List.mem_cons_of_mem _ (List.mem_append_right _ (h))
  have hk_9 := hts (.fieldLink RX2 9 "NestsOfTalk$Talk" "size" "I") (List.mem_of_getElem? (i := 1) rfl)
  have hn9 := hR.le
  have h2n := two_le hn9
  have h2p : 1 ≤ 2 ^ n := Nat.one_le_two_pow
  refine lv_iconst (v := 0) hx hb dX2_softestHolding_0 (by decide) ?_
  refine lv_istore_n (lv' := [(2, .int 0), (0, .ref h), (1, .int p0)]) hx hb dX2_softestHolding_1 rfl hl (by decide) rfl (fun ls hl => ?_)
  refine lv_iconst (v := 0) hx hb dX2_softestHolding_2 (by decide) ?_
  refine lv_istore_n (lv' := [(3, .int 0), (2, .int 0), (0, .ref h), (1, .int p0)]) hx hb dX2_softestHolding_3 rfl hl (by decide) rfl (fun ls hl => ?_)
  refine lv_iconst (v := 1) hx hb dX2_softestHolding_4 (by decide) ?_
  refine lv_istore (lv' := [(4, .int 1), (3, .int 0), (2, .int 0), (0, .ref h), (1, .int p0)]) hx hb dX2_softestHolding_5 hl (by decide) rfl (fun ls hl => ?_)
  have lp_7_1 : ∀ (fu : Nat) (i : Nat) (x4 : Int32) (x3 : Int32) (x2 : Int32) (ls : Array Slot), 2 ^ n - i < fu → (x4 = nI (i + 1)) → (i + 1 ≤ 2 ^ n) → (x2 = (shS r n p0 i).1) → (x3 = (shS r n p0 i).2) → lv_has ls 5 [(4, .int x4), (3, .int x3), (2, .int x2), (0, .ref h), (1, .int p0)] → W p l e ({ frames := 2, cells := 0, slots := 0, locals := 45 }) s m [.ref h, .int p0].toArray below meth c s.heap [] 0 0 Q (F0 m 7 ls []) := by
    intro fu
    induction fu with
    | zero =>
      intro i x4 x3 x2 ls hfu
      exact absurd hfu (Nat.not_lt_zero _)
    | succ fu ih_1 =>
      intro i x4 x3 x2 ls hfu hx4 hi hx2 hx3 hl
      refine lv_iload hx hb dX2_softestHolding_7 (lv_at hl 0 rfl) ?_
      refine lv_iconst (v := 1) hx hb dX2_softestHolding_9 (by decide) ?_
      refine lv_aload_n hx hb dX2_softestHolding_10 rfl (lv_at hl 3 rfl) ?_
      refine va_get (D := D) (ci := 1) (v := .int u.sz) (C := RX2) (T := TX2) (N := 12) hx hb hts hi_X2 hown hK.1 hP 0 rfl rfl 0 (by decide) hk_9 (fun _ h9 => h9) rfl dX2_softestHolding_11 ?_
      refine lv_ishl hx hb dX2_softestHolding_14 ?_
      refine lv_icmp_ge (tgt := 62) hx hb dX2_softestHolding_15 (by decide) (fun c_2 => ?_) (fun c_2 => ?_)
      · skip
        have n_2 : (2 ^ n) ≤ i + 1 := (ni_le (a := (2 ^ n)) (b := i + 1) (sh_1 hR.hsz hn9) hx4 (by omega) (by omega)).mp c_2
        refine lv_iload_n hx hb dX2_softestHolding_62 rfl (lv_at hl 2 rfl) ?_
        exact hret 63 _ x2 dX2_softestHolding_63 (by have e9 : 2 ^ n - 1 = i := (by omega); rw [e9]; exact hx2)
      have n_2 : ¬ (2 ^ n) ≤ i + 1 := fun q => c_2 ((ni_le (a := (2 ^ n)) (b := i + 1) (sh_1 hR.hsz hn9) hx4 (by omega) (by omega)).mpr q)
      refine lv_iload hx hb dX2_softestHolding_18 (lv_at hl 0 rfl) ?_
      refine lv_iload_n hx hb dX2_softestHolding_20 rfl (lv_at hl 4 rfl) ?_
      refine lv_iconst (v := (-1)) hx hb dX2_softestHolding_21 (by decide) ?_
      refine lv_ixor hx hb dX2_softestHolding_22 ?_
      refine lv_iand hx hb dX2_softestHolding_23 ?_
      refine lv_if_ne (tgt := 56) hx hb dX2_softestHolding_24 (by decide) (fun c_3 => ?_) (fun c_3 => ?_)
      · skip
        obtain ⟨x_4, ex_4⟩ : ∃ z : Int32, z = x4 + 1 := ⟨_, rfl⟩
        refine lv_iinc (v := x_4) (lv' := [(4, .int x_4), (3, .int x3), (2, .int x2), (0, .ref h), (1, .int p0)]) hx hb dX2_softestHolding_56 hl (k := 0) rfl (by rw [ex_4]; rfl) (by decide) rfl (fun ls hl => ?_)
        refine lv_goto (tgt := 7) hx hb dX2_softestHolding_59 (by decide) ?_
        exact ih_1 (i + 1) x_4 x3 x2 _ (by omega) (ni_add (a := i + 1) (b := 1) ex_4 hx4 (rfl : (1 : Int32) = nI 1)) (by omega) (by rw [hx4] at c_3; rw [shS, if_neg (fun q => c_3 q.1)]; exact hx2) (by rw [hx4] at c_3; rw [shS, if_neg (fun q => c_3 q.1)]; exact hx3) (lv_sub hl [0, 1, 2, 3, 4] rfl)
      refine lv_aload_n hx hb dX2_softestHolding_27 rfl (lv_at hl 3 rfl) ?_
      refine lv_iload hx hb dX2_softestHolding_28 (lv_at hl 0 rfl) ?_
      refine xc_Vi (As := [.int x4]) (rest := []) ⟨hx, hb, hml, hown, hts⟩ (kX2_softOf l D cI h hk hf hw ht u r n hR x4) (cwV 1 hts gX2_softestHolding_X2_softOf rfl rfl rfl hv_X2_softOf ⟨Nat.le_of_ble_eq_true rfl, Nat.le_of_ble_eq_true rfl⟩) hK hP [0, 1, 2, 3, 4] rfl 0 rfl rfl rfl hl.1 rfl (Nat.le_of_ble_eq_true rfl) dX2_softestHolding_30 ⟨Nat.zero_le _, Nat.zero_le _⟩ (fun r_5 hr_5 => ?_)
      refine lv_iload_n hx hb dX2_softestHolding_33 rfl (lv_at hl 1 rfl) ?_
      refine lv_icmp_le (tgt := 56) hx hb dX2_softestHolding_34 (by decide) (fun c_6 => ?_) (fun c_6 => ?_)
      · skip
        obtain ⟨x_7, ex_7⟩ : ∃ z : Int32, z = x4 + 1 := ⟨_, rfl⟩
        refine lv_iinc (v := x_7) (lv' := [(4, .int x_7), (3, .int x3), (2, .int x2), (0, .ref h), (1, .int p0)]) hx hb dX2_softestHolding_56 hl (k := 0) rfl (by rw [ex_7]; rfl) (by decide) rfl (fun ls hl => ?_)
        refine lv_goto (tgt := 7) hx hb dX2_softestHolding_59 (by decide) ?_
        exact ih_1 (i + 1) x_7 x3 x2 _ (by omega) (ni_add (a := i + 1) (b := 1) ex_7 hx4 (rfl : (1 : Int32) = nI 1)) (by omega) (by rw [hr_5, hx3, hx4] at c_6; rw [shS, if_neg (fun q => absurd q.2.1 (Int32.not_lt.2 c_6))]; exact hx2) (by rw [hr_5, hx3, hx4] at c_6; rw [shS, if_neg (fun q => absurd q.2.1 (Int32.not_lt.2 c_6))]; exact hx3) (lv_sub hl [0, 1, 2, 3, 4] rfl)
      refine lv_aload_n hx hb dX2_softestHolding_37 rfl (lv_at hl 3 rfl) ?_
      refine lv_iload hx hb dX2_softestHolding_38 (lv_at hl 0 rfl) ?_
      refine xc_Vi (As := [.int x4]) (rest := []) ⟨hx, hb, hml, hown, hts⟩ (kX2_holds l D cI h hk hf hw ht u r n hR x4) (cwV 1 hts gX2_softestHolding_X2_holds rfl rfl rfl hv_X2_holds ⟨Nat.le_of_ble_eq_true rfl, Nat.le_of_ble_eq_true rfl⟩) hK hP [0, 1, 2, 3, 4] rfl 0 rfl rfl rfl hl.1 rfl (Nat.le_of_ble_eq_true rfl) dX2_softestHolding_40 ⟨Nat.zero_le _, Nat.zero_le _⟩ (fun r_8 hr_8 => ?_)
      refine lv_if_eq (tgt := 56) hx hb dX2_softestHolding_43 (by decide) (fun c_9 => ?_) (fun c_9 => ?_)
      · skip
        have hb_9 : hld r n x4 = false := bool_f hr_8 c_9
        obtain ⟨x_10, ex_10⟩ : ∃ z : Int32, z = x4 + 1 := ⟨_, rfl⟩
        refine lv_iinc (v := x_10) (lv' := [(4, .int x_10), (3, .int x3), (2, .int x2), (0, .ref h), (1, .int p0)]) hx hb dX2_softestHolding_56 hl (k := 0) rfl (by rw [ex_10]; rfl) (by decide) rfl (fun ls hl => ?_)
        refine lv_goto (tgt := 7) hx hb dX2_softestHolding_59 (by decide) ?_
        exact ih_1 (i + 1) x_10 x3 x2 _ (by omega) (ni_add (a := i + 1) (b := 1) ex_10 hx4 (rfl : (1 : Int32) = nI 1)) (by omega) (by rw [hx4] at hb_9; rw [shS, if_neg (fun q => by rw [hb_9] at q; cases q.2.2)]; exact hx2) (by rw [hx4] at hb_9; rw [shS, if_neg (fun q => by rw [hb_9] at q; cases q.2.2)]; exact hx3) (lv_sub hl [0, 1, 2, 3, 4] rfl)
      have hb_9 : hld r n x4 = true := bool_t hr_8 c_9
      refine lv_iload hx hb dX2_softestHolding_46 (lv_at hl 0 rfl) ?_
      refine lv_istore_n (lv' := [(2, .int x4), (4, .int x4), (3, .int x3), (0, .ref h), (1, .int p0)]) hx hb dX2_softestHolding_48 rfl hl (by decide) rfl (fun ls hl => ?_)
      refine lv_aload_n hx hb dX2_softestHolding_49 rfl (lv_at hl 3 rfl) ?_
      refine lv_iload hx hb dX2_softestHolding_50 (lv_at hl 1 rfl) ?_
      refine xc_Vi (As := [.int x4]) (rest := []) ⟨hx, hb, hml, hown, hts⟩ (kX2_softOf l D cI h hk hf hw ht u r n hR x4) (cwV 1 hts gX2_softestHolding_X2_softOf rfl rfl rfl hv_X2_softOf ⟨Nat.le_of_ble_eq_true rfl, Nat.le_of_ble_eq_true rfl⟩) hK hP [0, 1, 2, 3, 4] rfl 0 rfl rfl rfl hl.1 rfl (Nat.le_of_ble_eq_true rfl) dX2_softestHolding_52 ⟨Nat.zero_le _, Nat.zero_le _⟩ (fun r_11 hr_11 => ?_)
      refine lv_istore_n (lv' := [(3, .int r_11), (2, .int x4), (4, .int x4), (0, .ref h), (1, .int p0)]) hx hb dX2_softestHolding_55 rfl hl (by decide) rfl (fun ls hl => ?_)
      obtain ⟨x_12, ex_12⟩ : ∃ z : Int32, z = x4 + 1 := ⟨_, rfl⟩
      refine lv_iinc (v := x_12) (lv' := [(4, .int x_12), (3, .int r_11), (2, .int x4), (0, .ref h), (1, .int p0)]) hx hb dX2_softestHolding_56 hl (k := 2) rfl (by rw [ex_12]; rfl) (by decide) rfl (fun ls hl => ?_)
      refine lv_goto (tgt := 7) hx hb dX2_softestHolding_59 (by decide) ?_
      exact ih_1 (i + 1) x_12 r_11 x4 _ (by omega) (ni_add (a := i + 1) (b := 1) ex_12 hx4 (rfl : (1 : Int32) = nI 1)) (by omega) (by rw [hx4] at c_3 hb_9; rw [hr_5, hx3, hx4] at c_6; rw [shS, if_pos ⟨c_3, Int32.not_le.1 c_6, hb_9⟩]; exact hx4) (by rw [hx4] at c_3 hb_9; rw [hr_5, hx3, hx4] at c_6; rw [shS, if_pos ⟨c_3, Int32.not_le.1 c_6, hb_9⟩]; exact by rw [hr_11, hx4]) (lv_sub hl [0, 1, 2, 3, 4] rfl)
  exact lp_7_1 ((2 ^ n - 0) + 1) 0 1 0 0 _ (by omega) (rfl : (1 : Int32) = nI 1) (by omega) rfl rfl (lv_sub hl [0, 1, 2, 3, 4] rfl)


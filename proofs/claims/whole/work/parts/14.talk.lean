theorem hs_X3_isWoman : yX3_isWoman.cls ≠ "java/lang/invoke/MethodHandle" ∧ yX3_isWoman.cls ≠ "java/lang/invoke/VarHandle" ∧ (parseMethodDescriptor yX3_isWoman.desc).map (fun d => d.parameters.length) = some 1 := by decide +kernel
theorem hs_X4_isWoman : yX4_isWoman.cls ≠ "java/lang/invoke/MethodHandle" ∧ yX4_isWoman.cls ≠ "java/lang/invoke/VarHandle" ∧ (parseMethodDescriptor yX4_isWoman.desc).map (fun d => d.parameters.length) = some 1 := by decide +kernel
theorem hs_X2_knows : yX2_knows.cls ≠ "java/lang/invoke/MethodHandle" ∧ yX2_knows.cls ≠ "java/lang/invoke/VarHandle" ∧ (parseMethodDescriptor yX2_knows.desc).map (fun d => d.parameters.length) = some 1 := by decide +kernel
theorem hv_X2_knows : yX2_knows.cls = RX2 ∧ yX2_knows.cls ≠ "java/lang/invoke/MethodHandle" ∧ yX2_knows.cls ≠ "java/lang/invoke/VarHandle" ∧ (parseMethodDescriptor yX2_knows.desc).map (fun d => d.parameters.length) = some 1 := ⟨rfl, hs_X2_knows⟩
theorem hs_X2_everySaying : yX2_everySaying.cls ≠ "java/lang/invoke/MethodHandle" ∧ yX2_everySaying.cls ≠ "java/lang/invoke/VarHandle" ∧ (parseMethodDescriptor yX2_everySaying.desc).map (fun d => d.parameters.length) = some 0 := by decide +kernel
theorem hv_X2_everySaying : yX2_everySaying.cls = RX2 ∧ yX2_everySaying.cls ≠ "java/lang/invoke/MethodHandle" ∧ yX2_everySaying.cls ≠ "java/lang/invoke/VarHandle" ∧ (parseMethodDescriptor yX2_everySaying.desc).map (fun d => d.parameters.length) = some 0 := ⟨rfl, hs_X2_everySaying⟩
theorem hs_X2_allAbout : yX2_allAbout.cls ≠ "java/lang/invoke/MethodHandle" ∧ yX2_allAbout.cls ≠ "java/lang/invoke/VarHandle" ∧ (parseMethodDescriptor yX2_allAbout.desc).map (fun d => d.parameters.length) = some 1 := by decide +kernel
theorem hv_X2_allAbout : yX2_allAbout.cls = RX2 ∧ yX2_allAbout.cls ≠ "java/lang/invoke/MethodHandle" ∧ yX2_allAbout.cls ≠ "java/lang/invoke/VarHandle" ∧ (parseMethodDescriptor yX2_allAbout.desc).map (fun d => d.parameters.length) = some 1 := ⟨rfl, hs_X2_allAbout⟩
theorem hs_X2_nestOf : yX2_nestOf.cls ≠ "java/lang/invoke/MethodHandle" ∧ yX2_nestOf.cls ≠ "java/lang/invoke/VarHandle" ∧ (parseMethodDescriptor yX2_nestOf.desc).map (fun d => d.parameters.length) = some 1 := by decide +kernel
theorem hv_X2_nestOf : yX2_nestOf.cls = RX2 ∧ yX2_nestOf.cls ≠ "java/lang/invoke/MethodHandle" ∧ yX2_nestOf.cls ≠ "java/lang/invoke/VarHandle" ∧ (parseMethodDescriptor yX2_nestOf.desc).map (fun d => d.parameters.length) = some 1 := ⟨rfl, hs_X2_nestOf⟩
theorem hs_X2_saidAbout : yX2_saidAbout.cls ≠ "java/lang/invoke/MethodHandle" ∧ yX2_saidAbout.cls ≠ "java/lang/invoke/VarHandle" ∧ (parseMethodDescriptor yX2_saidAbout.desc).map (fun d => d.parameters.length) = some 1 := by decide +kernel
theorem hv_X2_saidAbout : yX2_saidAbout.cls = RX2 ∧ yX2_saidAbout.cls ≠ "java/lang/invoke/MethodHandle" ∧ yX2_saidAbout.cls ≠ "java/lang/invoke/VarHandle" ∧ (parseMethodDescriptor yX2_saidAbout.desc).map (fun d => d.parameters.length) = some 1 := ⟨rfl, hs_X2_saidAbout⟩
theorem hs_X2_freshOf : yX2_freshOf.cls ≠ "java/lang/invoke/MethodHandle" ∧ yX2_freshOf.cls ≠ "java/lang/invoke/VarHandle" ∧ (parseMethodDescriptor yX2_freshOf.desc).map (fun d => d.parameters.length) = some 1 := by decide +kernel
theorem hv_X2_freshOf : yX2_freshOf.cls = RX2 ∧ yX2_freshOf.cls ≠ "java/lang/invoke/MethodHandle" ∧ yX2_freshOf.cls ≠ "java/lang/invoke/VarHandle" ∧ (parseMethodDescriptor yX2_freshOf.desc).map (fun d => d.parameters.length) = some 1 := ⟨rfl, hs_X2_freshOf⟩
theorem hs_X2_softOf : yX2_softOf.cls ≠ "java/lang/invoke/MethodHandle" ∧ yX2_softOf.cls ≠ "java/lang/invoke/VarHandle" ∧ (parseMethodDescriptor yX2_softOf.desc).map (fun d => d.parameters.length) = some 1 := by decide +kernel
theorem hv_X2_softOf : yX2_softOf.cls = RX2 ∧ yX2_softOf.cls ≠ "java/lang/invoke/MethodHandle" ∧ yX2_softOf.cls ≠ "java/lang/invoke/VarHandle" ∧ (parseMethodDescriptor yX2_softOf.desc).map (fun d => d.parameters.length) = some 1 := ⟨rfl, hs_X2_softOf⟩
theorem hs_X2_bindsOf : yX2_bindsOf.cls ≠ "java/lang/invoke/MethodHandle" ∧ yX2_bindsOf.cls ≠ "java/lang/invoke/VarHandle" ∧ (parseMethodDescriptor yX2_bindsOf.desc).map (fun d => d.parameters.length) = some 1 := by decide +kernel
theorem hv_X2_bindsOf : yX2_bindsOf.cls = RX2 ∧ yX2_bindsOf.cls ≠ "java/lang/invoke/MethodHandle" ∧ yX2_bindsOf.cls ≠ "java/lang/invoke/VarHandle" ∧ (parseMethodDescriptor yX2_bindsOf.desc).map (fun d => d.parameters.length) = some 1 := ⟨rfl, hs_X2_bindsOf⟩
theorem hs_X2_weighsOf : yX2_weighsOf.cls ≠ "java/lang/invoke/MethodHandle" ∧ yX2_weighsOf.cls ≠ "java/lang/invoke/VarHandle" ∧ (parseMethodDescriptor yX2_weighsOf.desc).map (fun d => d.parameters.length) = some 1 := by decide +kernel
theorem hv_X2_weighsOf : yX2_weighsOf.cls = RX2 ∧ yX2_weighsOf.cls ≠ "java/lang/invoke/MethodHandle" ∧ yX2_weighsOf.cls ≠ "java/lang/invoke/VarHandle" ∧ (parseMethodDescriptor yX2_weighsOf.desc).map (fun d => d.parameters.length) = some 1 := ⟨rfl, hs_X2_weighsOf⟩
theorem hs_X2_holds : yX2_holds.cls ≠ "java/lang/invoke/MethodHandle" ∧ yX2_holds.cls ≠ "java/lang/invoke/VarHandle" ∧ (parseMethodDescriptor yX2_holds.desc).map (fun d => d.parameters.length) = some 1 := by decide +kernel
theorem hv_X2_holds : yX2_holds.cls = RX2 ∧ yX2_holds.cls ≠ "java/lang/invoke/MethodHandle" ∧ yX2_holds.cls ≠ "java/lang/invoke/VarHandle" ∧ (parseMethodDescriptor yX2_holds.desc).map (fun d => d.parameters.length) = some 1 := ⟨rfl, hs_X2_holds⟩
theorem hs_X2_allWorn : yX2_allWorn.cls ≠ "java/lang/invoke/MethodHandle" ∧ yX2_allWorn.cls ≠ "java/lang/invoke/VarHandle" ∧ (parseMethodDescriptor yX2_allWorn.desc).map (fun d => d.parameters.length) = some 0 := by decide +kernel
theorem hv_X2_allWorn : yX2_allWorn.cls = RX2 ∧ yX2_allWorn.cls ≠ "java/lang/invoke/MethodHandle" ∧ yX2_allWorn.cls ≠ "java/lang/invoke/VarHandle" ∧ (parseMethodDescriptor yX2_allWorn.desc).map (fun d => d.parameters.length) = some 0 := ⟨rfl, hs_X2_allWorn⟩
theorem hs_X2_whom : yX2_whom.cls ≠ "java/lang/invoke/MethodHandle" ∧ yX2_whom.cls ≠ "java/lang/invoke/VarHandle" ∧ (parseMethodDescriptor yX2_whom.desc).map (fun d => d.parameters.length) = some 1 := by decide +kernel
theorem hv_X2_whom : yX2_whom.cls = RX2 ∧ yX2_whom.cls ≠ "java/lang/invoke/MethodHandle" ∧ yX2_whom.cls ≠ "java/lang/invoke/VarHandle" ∧ (parseMethodDescriptor yX2_whom.desc).map (fun d => d.parameters.length) = some 1 := ⟨rfl, hs_X2_whom⟩
set_option maxHeartbeats 4000000 in
set_option maxRecDepth 100000 in
theorem kX3_isWoman (l : Launch) (D : va_G) (cI : ClassId) (p0 : Int32) : Met l yX3_isWoman wsX3_isWoman ({ frames := 0, cells := 0, slots := 0, locals := 0 }) (PRO D cI [.int p0] []) (vp_Si (fun v => v = (if womB p0 = true then 1 else 0))) 0 0 (fun _ => False) := by
  refine st_roi (cc := cX3_isWoman) (maxL := 1) (rt := .boolean) (by decide) rfl (Nat.le_of_ble_eq_true rfl) (by intro v h; subst h; split <;> rfl) ?_
  intro p e s m below meth c Q ls hx hb hml hts hown hP hK hl hret
  replace hown : s.vm.findClass RX3 = some m.cls := hown
  replace hl : lv_has ls 1 [(0, .int p0)] := hl
  refine lv_iload_n hx hb dX3_isWoman_0 rfl (lv_at hl 0 rfl) ?_
  refine lv_if_lt (tgt := 13) hx hb dX3_isWoman_1 (by decide) (fun c_1 => ?_) (fun c_1 => ?_)
  · skip
    refine lv_iconst (v := 0) hx hb dX3_isWoman_13 (by decide) ?_
    exact hret 14 _ 0 dX3_isWoman_14 (by rw [wom_f1 c_1]; rfl)
  refine lv_iload_n hx hb dX3_isWoman_4 rfl (lv_at hl 0 rfl) ?_
  refine lv_iconst (v := 4) hx hb dX3_isWoman_5 (by decide) ?_
  refine lv_icmp_ge (tgt := 13) hx hb dX3_isWoman_6 (by decide) (fun c_2 => ?_) (fun c_2 => ?_)
  · skip
    refine lv_iconst (v := 0) hx hb dX3_isWoman_13 (by decide) ?_
    exact hret 14 _ 0 dX3_isWoman_14 (by rw [wom_f2 c_2]; rfl)
  refine lv_iconst (v := 1) hx hb dX3_isWoman_9 (by decide) ?_
  refine lv_goto (tgt := 14) hx hb dX3_isWoman_10 (by decide) ?_
  exact hret 14 _ 1 dX3_isWoman_14 (by rw [wom_t c_1 c_2]; rfl)

set_option maxHeartbeats 4000000 in
set_option maxRecDepth 100000 in
theorem kX4_isWoman (l : Launch) (D : va_G) (cI : ClassId) (p0 : Int32) : Met l yX4_isWoman wsX4_isWoman ({ frames := 1, cells := 0, slots := 0, locals := 22 }) (PRO D cI [.int p0] []) (vp_Si (fun v => v = (if womB p0 = true then 1 else 0))) 0 0 (fun _ => False) := by
  refine st_roi (cc := cX4_isWoman) (maxL := 1) (rt := .boolean) (by decide) rfl (Nat.le_of_ble_eq_true rfl) (by intro v h; subst h; split <;> rfl) ?_
  intro p e s m below meth c Q ls hx hb hml hts hown hP hK hl hret
  replace hown : s.vm.findClass RX4 = some m.cls := hown
  replace hl : lv_has ls 1 [(0, .int p0)] := hl
  refine lv_iload_n hx hb dX4_isWoman_0 rfl (lv_at hl 0 rfl) ?_
  refine lv_iconst (v := 0) hx hb dX4_isWoman_1 (by decide) ?_
  refine lv_iconst (v := 3) hx hb dX4_isWoman_2 (by decide) ?_
  refine xc_Si (As := [.int p0, .int 0, .int 3]) (rest := []) ⟨hx, hb, hml, hown, hts⟩ (kX4_isIn l D cI p0 0 3) (va_cwS 3 hts gX4_isWoman_X4_isIn rfl rfl rfl hs_X4_isIn ⟨Nat.le_of_ble_eq_true rfl, Nat.le_of_ble_eq_true rfl⟩) hK hP [] rfl rfl hl.1 rfl (Nat.le_of_ble_eq_true rfl) dX4_isWoman_3 ⟨Nat.zero_le _, Nat.zero_le _⟩ (fun r_1 hr_1 => ?_)
  exact hret 6 _ r_1 dX4_isWoman_6 (hr_1.trans womB_ite)

set_option maxHeartbeats 4000000 in
set_option maxRecDepth 100000 in
theorem kX2_knows (l : Launch) (D : va_G) (cI : ClassId) (h hk hf hw ht : Nat) (u : TK) (r : RR) (n : Nat) (hR : Rep n r u) (p0 : Int32) : Met l yX2_knows wsX2_knows ({ frames := 0, cells := 0, slots := 0, locals := 0 }) (PRO D cI [.ref h, .int p0] [(h, .inr (1, [.int u.sz, .int u.dy, .int u.rb, .int u.ins, .int u.fo, .int u.fl, .int u.uw, .int u.lo, .ref hk, .ref hf, .ref hw, .ref ht])), (hk, .inl (cI, 9, .inl u.kd)), (hf, .inl (cI, 9, .inl u.fg)), (hw, .inl (cI, 9, .inl u.wn)), (ht, .inl (cI, 4, .inl u.tl))]) (vp_Si (fun v => v = (if sayB n p0 = true then 1 else 0))) 0 0 (fun _ => False) := by
  refine st_roi (cc := cX2_knows) (maxL := 2) (rt := .boolean) (by decide) rfl (Nat.le_of_ble_eq_true rfl) (by intro v h; subst h; split <;> rfl) ?_
  intro p e s m below meth c Q ls hx hb hml hts hown hP hK hl hret
  replace hown : s.vm.findClass RX2 = some m.cls := hown
  replace hl : lv_has ls 2 [(0, .ref h), (1, .int p0)] := hl
  have hi_X2 : ∀ w ∈ wsX20, w ∈ wsX2_knows := fun w h => List.mem_cons_of_mem _ (List.mem_append_right _ (h))
  have hk_9 := hts (.fieldLink RX2 9 "NestsOfTalk$Talk" "size" "I") (List.mem_of_getElem? (i := 1) rfl)
  have hn9 := hR.le
  refine lv_iload_n hx hb dX2_knows_0 rfl (lv_at hl 1 rfl) ?_
  refine lv_if_lt (tgt := 22) hx hb dX2_knows_1 (by decide) (fun c_1 => ?_) (fun c_1 => ?_)
  · skip
    refine lv_iconst (v := 0) hx hb dX2_knows_22 (by decide) ?_
    exact hret 23 _ 0 dX2_knows_23 (by rw [sayB_f1 c_1]; rfl)
  refine lv_iload_n hx hb dX2_knows_4 rfl (lv_at hl 1 rfl) ?_
  refine lv_aload_n hx hb dX2_knows_5 rfl (lv_at hl 0 rfl) ?_
  refine va_get (D := D) (ci := 1) (v := .int u.sz) (C := RX2) (T := TX2) (N := 12) hx hb hts hi_X2 hown hK.1 hP 0 rfl rfl 0 (by decide) hk_9 (fun _ h9 => h9) rfl dX2_knows_6 ?_
  refine lv_icmp_ge (tgt := 22) hx hb dX2_knows_9 (by decide) (fun c_2 => ?_) (fun c_2 => ?_)
  · skip
    refine lv_iconst (v := 0) hx hb dX2_knows_22 (by decide) ?_
    exact hret 23 _ 0 dX2_knows_23 (by rw [sayB_f2 hR.hsz hR.le c_2]; rfl)
  refine lv_iload_n hx hb dX2_knows_12 rfl (lv_at hl 1 rfl) ?_
  refine lv_bipush (v := 9) hx hb dX2_knows_13 (by decide) ?_
  refine lv_icmp_ge (tgt := 22) hx hb dX2_knows_15 (by decide) (fun c_3 => ?_) (fun c_3 => ?_)
  · skip
    exact absurd c_3 (say9 hR.le (sayB_t hR.hsz hR.le c_1 c_2))
  refine lv_iconst (v := 1) hx hb dX2_knows_18 (by decide) ?_
  refine lv_goto (tgt := 23) hx hb dX2_knows_19 (by decide) ?_
  exact hret 23 _ 1 dX2_knows_23 (by rw [sayB_t hR.hsz hR.le c_1 c_2]; rfl)

set_option maxHeartbeats 4000000 in
set_option maxRecDepth 100000 in
theorem kX2_everySaying (l : Launch) (D : va_G) (cI : ClassId) (h hk hf hw ht : Nat) (u : TK) (r : RR) (n : Nat) (hR : Rep n r u) : Met l yX2_everySaying wsX2_everySaying ({ frames := 0, cells := 0, slots := 0, locals := 0 }) (PRO D cI [.ref h] [(h, .inr (1, [.int u.sz, .int u.dy, .int u.rb, .int u.ins, .int u.fo, .int u.fl, .int u.uw, .int u.lo, .ref hk, .ref hf, .ref hw, .ref ht])), (hk, .inl (cI, 9, .inl u.kd)), (hf, .inl (cI, 9, .inl u.fg)), (hw, .inl (cI, 9, .inl u.wn)), (ht, .inl (cI, 4, .inl u.tl))]) (vp_Si (fun v => v = mk (fun _ => true) n)) 0 0 (fun _ => False) := by
  refine st_roi (cc := cX2_everySaying) (maxL := 1) (rt := .int) (by decide) rfl (Nat.le_of_ble_eq_true rfl) (fun _ _ => rfl) ?_
  intro p e s m below meth c Q ls hx hb hml hts hown hP hK hl hret
  replace hown : s.vm.findClass RX2 = some m.cls := hown
  replace hl : lv_has ls 1 [(0, .ref h)] := hl
  have hi_X2 : ∀ w ∈ wsX20, w ∈ wsX2_everySaying := fun w h => List.mem_cons_of_mem _ (List.mem_append_right _ (h))
  have hk_9 := hts (.fieldLink RX2 9 "NestsOfTalk$Talk" "size" "I") (List.mem_of_getElem? (i := 1) rfl)
  have hn9 := hR.le
  refine lv_iconst (v := 1) hx hb dX2_everySaying_0 (by decide) ?_
  refine lv_aload_n hx hb dX2_everySaying_1 rfl (lv_at hl 0 rfl) ?_
  refine va_get (D := D) (ci := 1) (v := .int u.sz) (C := RX2) (T := TX2) (N := 12) hx hb hts hi_X2 hown hK.1 hP 0 rfl rfl 0 (by decide) hk_9 (fun _ h9 => h9) rfl dX2_everySaying_2 ?_
  refine lv_ishl hx hb dX2_everySaying_5 ?_
  refine lv_iconst (v := 1) hx hb dX2_everySaying_6 (by decide) ?_
  refine lv_isub hx hb dX2_everySaying_7 ?_
  exact hret 8 _ ((1 <<< (u.sz &&& 31)) - 1) dX2_everySaying_8 (by rw [hR.hsz]; exact every_n n hR.le)

set_option maxHeartbeats 4000000 in
set_option maxRecDepth 100000 in
theorem kX2_allAbout (l : Launch) (D : va_G) (cI : ClassId) (h hk hf hw ht : Nat) (u : TK) (r : RR) (n : Nat) (hR : Rep n r u) (p0 : Int32) (t0 : Nat) (hp0 : p0 = nI t0) (ht0 : t0 < 4) : Met l yX2_allAbout wsX2_allAbout ({ frames := 0, cells := 0, slots := 0, locals := 0 }) (PRO D cI [.ref h, .int p0] [(h, .inr (1, [.int u.sz, .int u.dy, .int u.rb, .int u.ins, .int u.fo, .int u.fl, .int u.uw, .int u.lo, .ref hk, .ref hf, .ref hw, .ref ht])), (hk, .inl (cI, 9, .inl u.kd)), (hf, .inl (cI, 9, .inl u.fg)), (hw, .inl (cI, 9, .inl u.wn)), (ht, .inl (cI, 4, .inl u.tl))]) (vp_Si (fun v => v = u.tl t0)) 0 0 (fun _ => False) := by
  refine st_roi (cc := cX2_allAbout) (maxL := 2) (rt := .int) (by decide) rfl (Nat.le_of_ble_eq_true rfl) (fun _ _ => rfl) ?_
  intro p e s m below meth c Q ls hx hb hml hts hown hP hK hl hret
  replace hown : s.vm.findClass RX2 = some m.cls := hown
  replace hl : lv_has ls 2 [(0, .ref h), (1, .int p0)] := hl
  have hi_X2 : ∀ w ∈ wsX20, w ∈ wsX2_allAbout := fun w h => List.mem_cons_of_mem _ (List.mem_append_right _ (h))
  have hk_46 := hts (.fieldLink RX2 46 "NestsOfTalk$Talk" "told" "[I") (List.mem_of_getElem? (i := 1) rfl)
  have hn9 := hR.le
  refine lv_iload_n hx hb dX2_allAbout_0 rfl (lv_at hl 1 rfl) ?_
  refine lv_if_lt (tgt := 18) hx hb dX2_allAbout_1 (by decide) (fun c_1 => ?_) (fun c_1 => ?_)
  · skip
    have n_1 : t0 < 0 := (ni_lt (a := t0) (b := 0) hp0 (rfl : (0 : Int32) = nI 0) (by omega) (by decide)).mp c_1
    exfalso; omega
  have n_1 : ¬ t0 < 0 := fun q => c_1 ((ni_lt (a := t0) (b := 0) hp0 (rfl : (0 : Int32) = nI 0) (by omega) (by decide)).mpr q)
  refine lv_iload_n hx hb dX2_allAbout_4 rfl (lv_at hl 1 rfl) ?_
  refine lv_iconst (v := 4) hx hb dX2_allAbout_5 (by decide) ?_
  refine lv_icmp_ge (tgt := 18) hx hb dX2_allAbout_6 (by decide) (fun c_2 => ?_) (fun c_2 => ?_)
  · skip
    have n_2 : 4 ≤ t0 := (ni_le (a := 4) (b := t0) (rfl : (4 : Int32) = nI 4) hp0 (by decide) (by omega)).mp c_2
    exfalso; omega
  have n_2 : ¬ 4 ≤ t0 := fun q => c_2 ((ni_le (a := 4) (b := t0) (rfl : (4 : Int32) = nI 4) hp0 (by decide) (by omega)).mpr q)
  refine lv_aload_n hx hb dX2_allAbout_9 rfl (lv_at hl 0 rfl) ?_
  refine va_get (D := D) (ci := 1) (v := .ref ht) (C := RX2) (T := TX2) (N := 12) hx hb hts hi_X2 hown hK.1 hP 0 rfl rfl 11 (by decide) hk_46 (fun _ h9 => h9) rfl dX2_allAbout_10 ?_
  refine lv_iload_n hx hb dX2_allAbout_13 rfl (lv_at hl 1 rfl) ?_
  refine xa_ld hx hb hK hP 4 rfl (j := t0) hp0 (by omega) (by decide) dX2_allAbout_14 ?_
  refine lv_goto (tgt := 19) hx hb dX2_allAbout_15 (by decide) ?_
  exact hret 19 _ (u.tl t0) dX2_allAbout_19 rfl

set_option maxHeartbeats 4000000 in
set_option maxRecDepth 100000 in
theorem kX2_nestOf (l : Launch) (D : va_G) (cI : ClassId) (h hk hf hw ht : Nat) (u : TK) (r : RR) (n : Nat) (hR : Rep n r u) (p0 : Int32) (t0 : Nat) (hp0 : p0 = nI t0) (ht0 : t0 < 4) : Met l yX2_nestOf wsX2_nestOf ({ frames := 0, cells := 0, slots := 0, locals := 0 }) (PRO D cI [.ref h, .int p0] [(h, .inr (1, [.int u.sz, .int u.dy, .int u.rb, .int u.ins, .int u.fo, .int u.fl, .int u.uw, .int u.lo, .ref hk, .ref hf, .ref hw, .ref ht])), (hk, .inl (cI, 9, .inl u.kd)), (hf, .inl (cI, 9, .inl u.fg)), (hw, .inl (cI, 9, .inl u.wn)), (ht, .inl (cI, 4, .inl u.tl))]) (vp_Si (fun v => v = nst r n (nI t0))) 0 0 (fun _ => False) := by
  refine st_roi (cc := cX2_nestOf) (maxL := 2) (rt := .int) (by decide) rfl (Nat.le_of_ble_eq_true rfl) (fun _ _ => rfl) ?_
  intro p e s m below meth c Q ls hx hb hml hts hown hP hK hl hret
  replace hown : s.vm.findClass RX2 = some m.cls := hown
  replace hl : lv_has ls 2 [(0, .ref h), (1, .int p0)] := hl
  have hi_X2 : ∀ w ∈ wsX20, w ∈ wsX2_nestOf := fun w h => List.mem_cons_of_mem _ (List.mem_append_right _ (h))
  have hk_46 := hts (.fieldLink RX2 46 "NestsOfTalk$Talk" "told" "[I") (List.mem_of_getElem? (i := 1) rfl)
  have hk_21 := hts (.fieldLink RX2 21 "NestsOfTalk$Talk" "inside" "I") (List.mem_of_getElem? (i := 2) rfl)
  have hn9 := hR.le
  refine lv_iload_n hx hb dX2_nestOf_0 rfl (lv_at hl 1 rfl) ?_
  refine lv_if_lt (tgt := 23) hx hb dX2_nestOf_1 (by decide) (fun c_1 => ?_) (fun c_1 => ?_)
  · skip
    have n_1 : t0 < 0 := (ni_lt (a := t0) (b := 0) hp0 (rfl : (0 : Int32) = nI 0) (by omega) (by decide)).mp c_1
    exfalso; omega
  have n_1 : ¬ t0 < 0 := fun q => c_1 ((ni_lt (a := t0) (b := 0) hp0 (rfl : (0 : Int32) = nI 0) (by omega) (by decide)).mpr q)
  refine lv_iload_n hx hb dX2_nestOf_4 rfl (lv_at hl 1 rfl) ?_
  refine lv_iconst (v := 4) hx hb dX2_nestOf_5 (by decide) ?_
  refine lv_icmp_ge (tgt := 23) hx hb dX2_nestOf_6 (by decide) (fun c_2 => ?_) (fun c_2 => ?_)
  · skip
    have n_2 : 4 ≤ t0 := (ni_le (a := 4) (b := t0) (rfl : (4 : Int32) = nI 4) hp0 (by decide) (by omega)).mp c_2
    exfalso; omega
  have n_2 : ¬ 4 ≤ t0 := fun q => c_2 ((ni_le (a := 4) (b := t0) (rfl : (4 : Int32) = nI 4) hp0 (by decide) (by omega)).mpr q)
  refine lv_aload_n hx hb dX2_nestOf_9 rfl (lv_at hl 0 rfl) ?_
  refine va_get (D := D) (ci := 1) (v := .ref ht) (C := RX2) (T := TX2) (N := 12) hx hb hts hi_X2 hown hK.1 hP 0 rfl rfl 11 (by decide) hk_46 (fun _ h9 => h9) rfl dX2_nestOf_10 ?_
  refine lv_iload_n hx hb dX2_nestOf_13 rfl (lv_at hl 1 rfl) ?_
  refine xa_ld hx hb hK hP 4 rfl (j := t0) hp0 (by omega) (by decide) dX2_nestOf_14 ?_
  refine lv_aload_n hx hb dX2_nestOf_15 rfl (lv_at hl 0 rfl) ?_
  refine va_get (D := D) (ci := 1) (v := .int u.ins) (C := RX2) (T := TX2) (N := 12) hx hb hts hi_X2 hown hK.1 hP 0 rfl rfl 3 (by decide) hk_21 (fun _ h9 => h9) rfl dX2_nestOf_16 ?_
  refine lv_iand hx hb dX2_nestOf_19 ?_
  refine lv_goto (tgt := 24) hx hb dX2_nestOf_20 (by decide) ?_
  exact hret 24 _ ((u.tl t0) &&& u.ins) dX2_nestOf_24 (hR.nest ht0)

set_option maxHeartbeats 4000000 in
set_option maxRecDepth 100000 in
theorem kX2_saidAbout (l : Launch) (D : va_G) (cI : ClassId) (h hk hf hw ht : Nat) (u : TK) (r : RR) (n : Nat) (hR : Rep n r u) (p0 : Int32) (t0 : Nat) (hp0 : p0 = nI t0) (ht0 : t0 < 4) : Met l yX2_saidAbout wsX2_saidAbout ({ frames := 1, cells := 0, slots := 0, locals := 21 }) (PRO D cI [.ref h, .int p0] [(h, .inr (1, [.int u.sz, .int u.dy, .int u.rb, .int u.ins, .int u.fo, .int u.fl, .int u.uw, .int u.lo, .ref hk, .ref hf, .ref hw, .ref ht])), (hk, .inl (cI, 9, .inl u.kd)), (hf, .inl (cI, 9, .inl u.fg)), (hw, .inl (cI, 9, .inl u.wn)), (ht, .inl (cI, 4, .inl u.tl))]) (vp_Si (fun v => v = sad r n (nI t0))) 0 0 (fun _ => False) := by
  refine st_roi (cc := cX2_saidAbout) (maxL := 2) (rt := .int) (by decide) rfl (Nat.le_of_ble_eq_true rfl) (fun _ _ => rfl) ?_
  intro p e s m below meth c Q ls hx hb hml hts hown hP hK hl hret
  replace hown : s.vm.findClass RX2 = some m.cls := hown
  replace hl : lv_has ls 2 [(0, .ref h), (1, .int p0)] := hl
  have hi_X2 : ∀ w ∈ wsX20, w ∈ wsX2_saidAbout := fun w h => List.mem_cons_of_mem _ (List.mem_append_right _ (h))
  have hk_21 := hts (.fieldLink RX2 21 "NestsOfTalk$Talk" "inside" "I") (List.mem_of_getElem? (i := 1) rfl)
  have hk_33 := hts (.fieldLink RX2 33 "NestsOfTalk$Talk" "leftOut" "I") (List.mem_of_getElem? (i := 2) rfl)
  have hn9 := hR.le
  refine lv_aload_n hx hb dX2_saidAbout_0 rfl (lv_at hl 0 rfl) ?_
  refine lv_iload_n hx hb dX2_saidAbout_1 rfl (lv_at hl 1 rfl) ?_
  refine xc_Vi (As := [.int p0]) (rest := []) ⟨hx, hb, hml, hown, hts⟩ (kX2_allAbout l D cI h hk hf hw ht u r n hR p0 t0 hp0 (by omega)) (cwV 1 hts gX2_saidAbout_X2_allAbout rfl rfl rfl hv_X2_allAbout ⟨Nat.le_of_ble_eq_true rfl, Nat.le_of_ble_eq_true rfl⟩) hK hP [0, 1, 2, 3, 4] rfl 0 rfl rfl rfl hl.1 rfl (Nat.le_of_ble_eq_true rfl) dX2_saidAbout_2 ⟨Nat.zero_le _, Nat.zero_le _⟩ (fun r_1 hr_1 => ?_)
  refine lv_aload_n hx hb dX2_saidAbout_5 rfl (lv_at hl 0 rfl) ?_
  refine va_get (D := D) (ci := 1) (v := .int u.ins) (C := RX2) (T := TX2) (N := 12) hx hb hts hi_X2 hown hK.1 hP 0 rfl rfl 3 (by decide) hk_21 (fun _ h9 => h9) rfl dX2_saidAbout_6 ?_
  refine lv_iconst (v := (-1)) hx hb dX2_saidAbout_9 (by decide) ?_
  refine lv_ixor hx hb dX2_saidAbout_10 ?_
  refine lv_iand hx hb dX2_saidAbout_11 ?_
  refine lv_aload_n hx hb dX2_saidAbout_12 rfl (lv_at hl 0 rfl) ?_
  refine va_get (D := D) (ci := 1) (v := .int u.lo) (C := RX2) (T := TX2) (N := 12) hx hb hts hi_X2 hown hK.1 hP 0 rfl rfl 7 (by decide) hk_33 (fun _ h9 => h9) rfl dX2_saidAbout_13 ?_
  refine lv_iconst (v := (-1)) hx hb dX2_saidAbout_16 (by decide) ?_
  refine lv_ixor hx hb dX2_saidAbout_17 ?_
  refine lv_iand hx hb dX2_saidAbout_18 ?_
  exact hret 19 _ ((r_1 &&& (u.ins ^^^ (-1))) &&& (u.lo ^^^ (-1))) dX2_saidAbout_19 (by rw [hr_1]; exact hR.said ht0)

set_option maxHeartbeats 4000000 in
set_option maxRecDepth 100000 in
theorem kX2_freshOf (l : Launch) (D : va_G) (cI : ClassId) (h hk hf hw ht : Nat) (u : TK) (r : RR) (n : Nat) (hR : Rep n r u) (p0 : Int32) (t0 : Nat) (hp0 : p0 = nI t0) (ht0 : t0 < n) : Met l yX2_freshOf wsX2_freshOf ({ frames := 0, cells := 0, slots := 0, locals := 0 }) (PRO D cI [.ref h, .int p0] [(h, .inr (1, [.int u.sz, .int u.dy, .int u.rb, .int u.ins, .int u.fo, .int u.fl, .int u.uw, .int u.lo, .ref hk, .ref hf, .ref hw, .ref ht])), (hk, .inl (cI, 9, .inl u.kd)), (hf, .inl (cI, 9, .inl u.fg)), (hw, .inl (cI, 9, .inl u.wn)), (ht, .inl (cI, 4, .inl u.tl))]) (vp_Si (fun v => v = frs r t0)) 0 0 (fun _ => False) := by
  refine st_roi (cc := cX2_freshOf) (maxL := 2) (rt := .int) (by decide) rfl (Nat.le_of_ble_eq_true rfl) (fun _ _ => rfl) ?_
  intro p e s m below meth c Q ls hx hb hml hts hown hP hK hl hret
  replace hown : s.vm.findClass RX2 = some m.cls := hown
  replace hl : lv_has ls 2 [(0, .ref h), (1, .int p0)] := hl
  have hi_X2 : ∀ w ∈ wsX20, w ∈ wsX2_freshOf := fun w h => List.mem_cons_of_mem _ (List.mem_append_right _ (h))
  have hk_43 := hts (.fieldLink RX2 43 "NestsOfTalk$Talk" "worn" "[I") (List.mem_of_getElem? (i := 1) rfl)
  have hk_40 := hts (.fieldLink RX2 40 "NestsOfTalk$Talk" "figure" "[I") (List.mem_of_getElem? (i := 2) rfl)
  have hn9 := hR.le
  refine lv_iload_n hx hb dX2_freshOf_0 rfl (lv_at hl 1 rfl) ?_
  refine lv_if_lt (tgt := 25) hx hb dX2_freshOf_1 (by decide) (fun c_1 => ?_) (fun c_1 => ?_)
  · skip
    have n_1 : t0 < 0 := (ni_lt (a := t0) (b := 0) hp0 (rfl : (0 : Int32) = nI 0) (by omega) (by decide)).mp c_1
    exfalso; omega
  have n_1 : ¬ t0 < 0 := fun q => c_1 ((ni_lt (a := t0) (b := 0) hp0 (rfl : (0 : Int32) = nI 0) (by omega) (by decide)).mpr q)
  refine lv_iload_n hx hb dX2_freshOf_4 rfl (lv_at hl 1 rfl) ?_
  refine lv_bipush (v := 9) hx hb dX2_freshOf_5 (by decide) ?_
  refine lv_icmp_ge (tgt := 25) hx hb dX2_freshOf_7 (by decide) (fun c_2 => ?_) (fun c_2 => ?_)
  · skip
    have n_2 : 9 ≤ t0 := (ni_le (a := 9) (b := t0) (rfl : (9 : Int32) = nI 9) hp0 (by decide) (by omega)).mp c_2
    exfalso; omega
  have n_2 : ¬ 9 ≤ t0 := fun q => c_2 ((ni_le (a := 9) (b := t0) (rfl : (9 : Int32) = nI 9) hp0 (by decide) (by omega)).mpr q)
  refine lv_aload_n hx hb dX2_freshOf_10 rfl (lv_at hl 0 rfl) ?_
  refine va_get (D := D) (ci := 1) (v := .ref hw) (C := RX2) (T := TX2) (N := 12) hx hb hts hi_X2 hown hK.1 hP 0 rfl rfl 10 (by decide) hk_43 (fun _ h9 => h9) rfl dX2_freshOf_11 ?_
  refine lv_iload_n hx hb dX2_freshOf_14 rfl (lv_at hl 1 rfl) ?_
  refine xa_ld hx hb hK hP 3 rfl (j := t0) hp0 (by omega) (by decide) dX2_freshOf_15 ?_
  refine lv_aload_n hx hb dX2_freshOf_16 rfl (lv_at hl 0 rfl) ?_
  refine va_get (D := D) (ci := 1) (v := .ref hf) (C := RX2) (T := TX2) (N := 12) hx hb hts hi_X2 hown hK.1 hP 0 rfl rfl 9 (by decide) hk_40 (fun _ h9 => h9) rfl dX2_freshOf_17 ?_
  refine lv_iload_n hx hb dX2_freshOf_20 rfl (lv_at hl 1 rfl) ?_
  refine xa_ld hx hb hK hP 2 rfl (j := t0) hp0 (by omega) (by decide) dX2_freshOf_21 ?_
  refine lv_icmp_le (tgt := 27) hx hb dX2_freshOf_22 (by decide) (fun c_3 => ?_) (fun c_3 => ?_)
  · skip
    refine lv_aload_n hx hb dX2_freshOf_27 rfl (lv_at hl 0 rfl) ?_
    refine va_get (D := D) (ci := 1) (v := .ref hf) (C := RX2) (T := TX2) (N := 12) hx hb hts hi_X2 hown hK.1 hP 0 rfl rfl 9 (by decide) hk_40 (fun _ h9 => h9) rfl dX2_freshOf_28 ?_
    refine lv_iload_n hx hb dX2_freshOf_31 rfl (lv_at hl 1 rfl) ?_
    refine xa_ld hx hb hK hP 2 rfl (j := t0) hp0 (by omega) (by decide) dX2_freshOf_32 ?_
    refine lv_aload_n hx hb dX2_freshOf_33 rfl (lv_at hl 0 rfl) ?_
    refine va_get (D := D) (ci := 1) (v := .ref hw) (C := RX2) (T := TX2) (N := 12) hx hb hts hi_X2 hown hK.1 hP 0 rfl rfl 10 (by decide) hk_43 (fun _ h9 => h9) rfl dX2_freshOf_34 ?_
    refine lv_iload_n hx hb dX2_freshOf_37 rfl (lv_at hl 1 rfl) ?_
    refine xa_ld hx hb hK hP 3 rfl (j := t0) hp0 (by omega) (by decide) dX2_freshOf_38 ?_
    refine lv_isub hx hb dX2_freshOf_39 ?_
    exact hret 40 _ ((u.fg t0) - (u.wn t0)) dX2_freshOf_40 ((if_pos c_3).symm.trans (hR.fresh ht0))
  refine lv_iconst (v := 0) hx hb dX2_freshOf_25 (by decide) ?_
  exact hret 26 _ 0 dX2_freshOf_26 ((if_neg c_3).symm.trans (hR.fresh ht0))

set_option maxHeartbeats 4000000 in
set_option maxRecDepth 100000 in
theorem kX2_softOf (l : Launch) (D : va_G) (cI : ClassId) (h hk hf hw ht : Nat) (u : TK) (r : RR) (n : Nat) (hR : Rep n r u) (p0 : Int32) : Met l yX2_softOf wsX2_softOf ({ frames := 1, cells := 0, slots := 0, locals := 21 }) (PRO D cI [.ref h, .int p0] [(h, .inr (1, [.int u.sz, .int u.dy, .int u.rb, .int u.ins, .int u.fo, .int u.fl, .int u.uw, .int u.lo, .ref hk, .ref hf, .ref hw, .ref ht])), (hk, .inl (cI, 9, .inl u.kd)), (hf, .inl (cI, 9, .inl u.fg)), (hw, .inl (cI, 9, .inl u.wn)), (ht, .inl (cI, 4, .inl u.tl))]) (vp_Si (fun v => v = sumN r p0 1 n)) 0 0 (fun _ => False) := by
  refine st_roi (cc := cX2_softOf) (maxL := 4) (rt := .int) (by decide) rfl (Nat.le_of_ble_eq_true rfl) (fun _ _ => rfl) ?_
  intro p e s m below meth c Q ls hx hb hml hts hown hP hK hl hret
  replace hown : s.vm.findClass RX2 = some m.cls := hown
  replace hl : lv_has ls 4 [(0, .ref h), (1, .int p0)] := hl
  have hi_X2 : ∀ w ∈ wsX20, w ∈ wsX2_softOf := fun w h => List.mem_cons_of_mem _ (List.mem_append_right _ (h))
  have hk_9 := hts (.fieldLink RX2 9 "NestsOfTalk$Talk" "size" "I") (List.mem_of_getElem? (i := 1) rfl)
  have hk_36 := hts (.fieldLink RX2 36 "NestsOfTalk$Talk" "kind" "[I") (List.mem_of_getElem? (i := 2) rfl)
  have hn9 := hR.le
  refine lv_iconst (v := 0) hx hb dX2_softOf_0 (by decide) ?_
  refine lv_istore_n (lv' := [(2, .int 0), (0, .ref h), (1, .int p0)]) hx hb dX2_softOf_1 rfl hl (by decide) rfl (fun ls hl => ?_)
  refine lv_iconst (v := 0) hx hb dX2_softOf_2 (by decide) ?_
  refine lv_istore_n (lv' := [(3, .int 0), (2, .int 0), (0, .ref h), (1, .int p0)]) hx hb dX2_softOf_3 rfl hl (by decide) rfl (fun ls hl => ?_)
  have lp_4_1 : ∀ (fu : Nat) (i : Nat) (x3 : Int32) (x2 : Int32) (ls : Array Slot), n - i < fu → (x3 = nI i) → (i ≤ n) → (x2 = sumN r p0 1 i) → lv_has ls 4 [(3, .int x3), (2, .int x2), (0, .ref h), (1, .int p0)] → W p l e ({ frames := 1, cells := 0, slots := 0, locals := 21 }) s m [.ref h, .int p0].toArray below meth c s.heap [] 0 0 Q (F0 m 4 ls []) := by
    intro fu
    induction fu with
    | zero =>
      intro i x3 x2 ls hfu
      exact absurd hfu (Nat.not_lt_zero _)
    | succ fu ih_1 =>
      intro i x3 x2 ls hfu hx3 hi hx2 hl
      refine lv_iload_n hx hb dX2_softOf_4 rfl (lv_at hl 0 rfl) ?_
      refine lv_aload_n hx hb dX2_softOf_5 rfl (lv_at hl 2 rfl) ?_
      refine va_get (D := D) (ci := 1) (v := .int u.sz) (C := RX2) (T := TX2) (N := 12) hx hb hts hi_X2 hown hK.1 hP 0 rfl rfl 0 (by decide) hk_9 (fun _ h9 => h9) rfl dX2_softOf_6 ?_
      refine lv_icmp_ge (tgt := 50) hx hb dX2_softOf_9 (by decide) (fun c_2 => ?_) (fun c_2 => ?_)
      · skip
        have n_2 : n ≤ i := (ni_le (a := n) (b := i) hR.hsz hx3 (by omega) (by omega)).mp c_2
        refine lv_iload_n hx hb dX2_softOf_50 rfl (lv_at hl 1 rfl) ?_
        exact hret 51 _ x2 dX2_softOf_51 (by have e9 : i = n := (by omega); subst e9; exact hx2)
      have n_2 : ¬ n ≤ i := fun q => c_2 ((ni_le (a := n) (b := i) hR.hsz hx3 (by omega) (by omega)).mpr q)
      refine lv_iload_n hx hb dX2_softOf_12 rfl (lv_at hl 0 rfl) ?_
      refine lv_bipush (v := 9) hx hb dX2_softOf_13 (by decide) ?_
      refine lv_icmp_ge (tgt := 50) hx hb dX2_softOf_15 (by decide) (fun c_3 => ?_) (fun c_3 => ?_)
      · skip
        have n_3 : 9 ≤ i := (ni_le (a := 9) (b := i) (rfl : (9 : Int32) = nI 9) hx3 (by decide) (by omega)).mp c_3
        exfalso; omega
      have n_3 : ¬ 9 ≤ i := fun q => c_3 ((ni_le (a := 9) (b := i) (rfl : (9 : Int32) = nI 9) hx3 (by decide) (by omega)).mpr q)
      refine lv_iload_n hx hb dX2_softOf_18 rfl (lv_at hl 3 rfl) ?_
      refine lv_iload_n hx hb dX2_softOf_19 rfl (lv_at hl 0 rfl) ?_
      refine lv_ishr hx hb dX2_softOf_20 ?_
      refine lv_iconst (v := 1) hx hb dX2_softOf_21 (by decide) ?_
      refine lv_iand hx hb dX2_softOf_22 ?_
      refine lv_iconst (v := 1) hx hb dX2_softOf_23 (by decide) ?_
      refine lv_icmp_ne (tgt := 44) hx hb dX2_softOf_24 (by decide) (fun c_4 => ?_) (fun c_4 => ?_)
      · skip
        have hb_4 : bt p0 i = false := hx_f hx3 (by omega) c_4
        obtain ⟨x_5, ex_5⟩ : ∃ z : Int32, z = x3 + 1 := ⟨_, rfl⟩
        refine lv_iinc (v := x_5) (lv' := [(3, .int x_5), (2, .int x2), (0, .ref h), (1, .int p0)]) hx hb dX2_softOf_44 hl (k := 0) rfl (by rw [ex_5]; rfl) (by decide) rfl (fun ls hl => ?_)
        refine lv_goto (tgt := 4) hx hb dX2_softOf_47 (by decide) ?_
        exact ih_1 (i + 1) x_5 x2 _ (by omega) (ni_add (a := i) (b := 1) ex_5 hx3 (rfl : (1 : Int32) = nI 1)) (by omega) (by have hk9 : u.kd i = r (oF i 0) := hR.hkd (by omega); clear ih_1; clear hret hP hK hts hown hx hb hml hl hk_9 hk_36 hi_X2; subst_vars; simp_all [sumN, one, hx_iff]) (lv_sub hl [0, 1, 2, 3] rfl)
      have hb_4 : bt p0 i = true := hx_t hx3 (by omega) c_4
      refine lv_iload_n hx hb dX2_softOf_27 rfl (lv_at hl 1 rfl) ?_
      refine lv_aload_n hx hb dX2_softOf_28 rfl (lv_at hl 2 rfl) ?_
      refine va_get (D := D) (ci := 1) (v := .ref hk) (C := RX2) (T := TX2) (N := 12) hx hb hts hi_X2 hown hK.1 hP 0 rfl rfl 8 (by decide) hk_36 (fun _ h9 => h9) rfl dX2_softOf_29 ?_
      refine lv_iload_n hx hb dX2_softOf_32 rfl (lv_at hl 0 rfl) ?_
      refine xa_ld hx hb hK hP 1 rfl (j := i) hx3 (by omega) (by decide) dX2_softOf_33 ?_
      refine lv_aload_n hx hb dX2_softOf_34 rfl (lv_at hl 2 rfl) ?_
      refine lv_iload_n hx hb dX2_softOf_35 rfl (lv_at hl 0 rfl) ?_
      refine xc_Vi (As := [.int x3]) (rest := [.int (u.kd i), .int x2]) ⟨hx, hb, hml, hown, hts⟩ (kX2_freshOf l D cI h hk hf hw ht u r n hR x3 i hx3 (by omega)) (cwV 1 hts gX2_softOf_X2_freshOf rfl rfl rfl hv_X2_freshOf ⟨Nat.le_of_ble_eq_true rfl, Nat.le_of_ble_eq_true rfl⟩) hK hP [0, 1, 2, 3, 4] rfl 0 rfl rfl rfl hl.1 rfl (Nat.le_of_ble_eq_true rfl) dX2_softOf_36 ⟨Nat.zero_le _, Nat.zero_le _⟩ (fun r_6 hr_6 => ?_)
      refine xc_Si (As := [.int (u.kd i), .int r_6]) (rest := [.int x2]) ⟨hx, hb, hml, hown, hts⟩ (kX1_softOfKind l D cI (u.kd i) r_6) (va_cwS 2 hts gX2_softOf_X1_softOfKind rfl rfl rfl hs_X1_softOfKind ⟨Nat.le_of_ble_eq_true rfl, Nat.le_of_ble_eq_true rfl⟩) hK hP [] rfl rfl hl.1 rfl (Nat.le_of_ble_eq_true rfl) dX2_softOf_39 ⟨Nat.zero_le _, Nat.zero_le _⟩ (fun r_7 hr_7 => ?_)
      refine lv_iadd hx hb dX2_softOf_42 ?_
      refine lv_topi (fun x_8 ex_8 => ?_)
      refine lv_istore_n (lv' := [(2, .int x_8), (3, .int x3), (0, .ref h), (1, .int p0)]) hx hb dX2_softOf_43 rfl hl (by decide) rfl (fun ls hl => ?_)
      obtain ⟨x_9, ex_9⟩ : ∃ z : Int32, z = x3 + 1 := ⟨_, rfl⟩
      refine lv_iinc (v := x_9) (lv' := [(3, .int x_9), (2, .int x_8), (0, .ref h), (1, .int p0)]) hx hb dX2_softOf_44 hl (k := 1) rfl (by rw [ex_9]; rfl) (by decide) rfl (fun ls hl => ?_)
      refine lv_goto (tgt := 4) hx hb dX2_softOf_47 (by decide) ?_
      exact ih_1 (i + 1) x_9 x_8 _ (by omega) (ni_add (a := i) (b := 1) ex_9 hx3 (rfl : (1 : Int32) = nI 1)) (by omega) (by have hk9 : u.kd i = r (oF i 0) := hR.hkd (by omega); clear ih_1; clear hret hP hK hts hown hx hb hml hl hk_9 hk_36 hi_X2; subst_vars; simp_all [sumN, one, hx_iff]) (lv_sub hl [0, 1, 2, 3] rfl)
  exact lp_4_1 ((n - 0) + 1) 0 0 0 _ (by omega) (rfl : (0 : Int32) = nI 0) (by omega) rfl (lv_sub hl [0, 1, 2, 3] rfl)

set_option maxHeartbeats 4000000 in
set_option maxRecDepth 100000 in
theorem kX2_bindsOf (l : Launch) (D : va_G) (cI : ClassId) (h hk hf hw ht : Nat) (u : TK) (r : RR) (n : Nat) (hR : Rep n r u) (p0 : Int32) : Met l yX2_bindsOf wsX2_bindsOf ({ frames := 1, cells := 0, slots := 0, locals := 21 }) (PRO D cI [.ref h, .int p0] [(h, .inr (1, [.int u.sz, .int u.dy, .int u.rb, .int u.ins, .int u.fo, .int u.fl, .int u.uw, .int u.lo, .ref hk, .ref hf, .ref hw, .ref ht])), (hk, .inl (cI, 9, .inl u.kd)), (hf, .inl (cI, 9, .inl u.fg)), (hw, .inl (cI, 9, .inl u.wn)), (ht, .inl (cI, 4, .inl u.tl))]) (vp_Si (fun v => v = sumN r p0 2 n)) 0 0 (fun _ => False) := by
  refine st_roi (cc := cX2_bindsOf) (maxL := 4) (rt := .int) (by decide) rfl (Nat.le_of_ble_eq_true rfl) (fun _ _ => rfl) ?_
  intro p e s m below meth c Q ls hx hb hml hts hown hP hK hl hret
  replace hown : s.vm.findClass RX2 = some m.cls := hown
  replace hl : lv_has ls 4 [(0, .ref h), (1, .int p0)] := hl
  have hi_X2 : ∀ w ∈ wsX20, w ∈ wsX2_bindsOf := fun w h => List.mem_cons_of_mem _ (List.mem_append_right _ (h))
  have hk_9 := hts (.fieldLink RX2 9 "NestsOfTalk$Talk" "size" "I") (List.mem_of_getElem? (i := 1) rfl)
  have hk_36 := hts (.fieldLink RX2 36 "NestsOfTalk$Talk" "kind" "[I") (List.mem_of_getElem? (i := 2) rfl)
  have hn9 := hR.le
  refine lv_iconst (v := 0) hx hb dX2_bindsOf_0 (by decide) ?_
  refine lv_istore_n (lv' := [(2, .int 0), (0, .ref h), (1, .int p0)]) hx hb dX2_bindsOf_1 rfl hl (by decide) rfl (fun ls hl => ?_)
  refine lv_iconst (v := 0) hx hb dX2_bindsOf_2 (by decide) ?_
  refine lv_istore_n (lv' := [(3, .int 0), (2, .int 0), (0, .ref h), (1, .int p0)]) hx hb dX2_bindsOf_3 rfl hl (by decide) rfl (fun ls hl => ?_)
  have lp_4_1 : ∀ (fu : Nat) (i : Nat) (x3 : Int32) (x2 : Int32) (ls : Array Slot), n - i < fu → (x3 = nI i) → (i ≤ n) → (x2 = sumN r p0 2 i) → lv_has ls 4 [(3, .int x3), (2, .int x2), (0, .ref h), (1, .int p0)] → W p l e ({ frames := 1, cells := 0, slots := 0, locals := 21 }) s m [.ref h, .int p0].toArray below meth c s.heap [] 0 0 Q (F0 m 4 ls []) := by
    intro fu
    induction fu with
    | zero =>
      intro i x3 x2 ls hfu
      exact absurd hfu (Nat.not_lt_zero _)
    | succ fu ih_1 =>
      intro i x3 x2 ls hfu hx3 hi hx2 hl
      refine lv_iload_n hx hb dX2_bindsOf_4 rfl (lv_at hl 0 rfl) ?_
      refine lv_aload_n hx hb dX2_bindsOf_5 rfl (lv_at hl 2 rfl) ?_
      refine va_get (D := D) (ci := 1) (v := .int u.sz) (C := RX2) (T := TX2) (N := 12) hx hb hts hi_X2 hown hK.1 hP 0 rfl rfl 0 (by decide) hk_9 (fun _ h9 => h9) rfl dX2_bindsOf_6 ?_
      refine lv_icmp_ge (tgt := 50) hx hb dX2_bindsOf_9 (by decide) (fun c_2 => ?_) (fun c_2 => ?_)
      · skip
        have n_2 : n ≤ i := (ni_le (a := n) (b := i) hR.hsz hx3 (by omega) (by omega)).mp c_2
        refine lv_iload_n hx hb dX2_bindsOf_50 rfl (lv_at hl 1 rfl) ?_
        exact hret 51 _ x2 dX2_bindsOf_51 (by have e9 : i = n := (by omega); subst e9; exact hx2)
      have n_2 : ¬ n ≤ i := fun q => c_2 ((ni_le (a := n) (b := i) hR.hsz hx3 (by omega) (by omega)).mpr q)
      refine lv_iload_n hx hb dX2_bindsOf_12 rfl (lv_at hl 0 rfl) ?_
      refine lv_bipush (v := 9) hx hb dX2_bindsOf_13 (by decide) ?_
      refine lv_icmp_ge (tgt := 50) hx hb dX2_bindsOf_15 (by decide) (fun c_3 => ?_) (fun c_3 => ?_)
      · skip
        have n_3 : 9 ≤ i := (ni_le (a := 9) (b := i) (rfl : (9 : Int32) = nI 9) hx3 (by decide) (by omega)).mp c_3
        exfalso; omega
      have n_3 : ¬ 9 ≤ i := fun q => c_3 ((ni_le (a := 9) (b := i) (rfl : (9 : Int32) = nI 9) hx3 (by decide) (by omega)).mpr q)
      refine lv_iload_n hx hb dX2_bindsOf_18 rfl (lv_at hl 3 rfl) ?_
      refine lv_iload_n hx hb dX2_bindsOf_19 rfl (lv_at hl 0 rfl) ?_
      refine lv_ishr hx hb dX2_bindsOf_20 ?_
      refine lv_iconst (v := 1) hx hb dX2_bindsOf_21 (by decide) ?_
      refine lv_iand hx hb dX2_bindsOf_22 ?_
      refine lv_iconst (v := 1) hx hb dX2_bindsOf_23 (by decide) ?_
      refine lv_icmp_ne (tgt := 44) hx hb dX2_bindsOf_24 (by decide) (fun c_4 => ?_) (fun c_4 => ?_)
      · skip
        have hb_4 : bt p0 i = false := hx_f hx3 (by omega) c_4
        obtain ⟨x_5, ex_5⟩ : ∃ z : Int32, z = x3 + 1 := ⟨_, rfl⟩
        refine lv_iinc (v := x_5) (lv' := [(3, .int x_5), (2, .int x2), (0, .ref h), (1, .int p0)]) hx hb dX2_bindsOf_44 hl (k := 0) rfl (by rw [ex_5]; rfl) (by decide) rfl (fun ls hl => ?_)
        refine lv_goto (tgt := 4) hx hb dX2_bindsOf_47 (by decide) ?_
        exact ih_1 (i + 1) x_5 x2 _ (by omega) (ni_add (a := i) (b := 1) ex_5 hx3 (rfl : (1 : Int32) = nI 1)) (by omega) (by have hk9 : u.kd i = r (oF i 0) := hR.hkd (by omega); clear ih_1; clear hret hP hK hts hown hx hb hml hl hk_9 hk_36 hi_X2; subst_vars; simp_all [sumN, one, hx_iff]) (lv_sub hl [0, 1, 2, 3] rfl)
      have hb_4 : bt p0 i = true := hx_t hx3 (by omega) c_4
      refine lv_iload_n hx hb dX2_bindsOf_27 rfl (lv_at hl 1 rfl) ?_
      refine lv_aload_n hx hb dX2_bindsOf_28 rfl (lv_at hl 2 rfl) ?_
      refine va_get (D := D) (ci := 1) (v := .ref hk) (C := RX2) (T := TX2) (N := 12) hx hb hts hi_X2 hown hK.1 hP 0 rfl rfl 8 (by decide) hk_36 (fun _ h9 => h9) rfl dX2_bindsOf_29 ?_
      refine lv_iload_n hx hb dX2_bindsOf_32 rfl (lv_at hl 0 rfl) ?_
      refine xa_ld hx hb hK hP 1 rfl (j := i) hx3 (by omega) (by decide) dX2_bindsOf_33 ?_
      refine lv_aload_n hx hb dX2_bindsOf_34 rfl (lv_at hl 2 rfl) ?_
      refine lv_iload_n hx hb dX2_bindsOf_35 rfl (lv_at hl 0 rfl) ?_
      refine xc_Vi (As := [.int x3]) (rest := [.int (u.kd i), .int x2]) ⟨hx, hb, hml, hown, hts⟩ (kX2_freshOf l D cI h hk hf hw ht u r n hR x3 i hx3 (by omega)) (cwV 1 hts gX2_bindsOf_X2_freshOf rfl rfl rfl hv_X2_freshOf ⟨Nat.le_of_ble_eq_true rfl, Nat.le_of_ble_eq_true rfl⟩) hK hP [0, 1, 2, 3, 4] rfl 0 rfl rfl rfl hl.1 rfl (Nat.le_of_ble_eq_true rfl) dX2_bindsOf_36 ⟨Nat.zero_le _, Nat.zero_le _⟩ (fun r_6 hr_6 => ?_)
      refine xc_Si (As := [.int (u.kd i), .int r_6]) (rest := [.int x2]) ⟨hx, hb, hml, hown, hts⟩ (kX1_bindsOfKind l D cI (u.kd i) r_6) (va_cwS 2 hts gX2_bindsOf_X1_bindsOfKind rfl rfl rfl hs_X1_bindsOfKind ⟨Nat.le_of_ble_eq_true rfl, Nat.le_of_ble_eq_true rfl⟩) hK hP [] rfl rfl hl.1 rfl (Nat.le_of_ble_eq_true rfl) dX2_bindsOf_39 ⟨Nat.zero_le _, Nat.zero_le _⟩ (fun r_7 hr_7 => ?_)
      refine lv_iadd hx hb dX2_bindsOf_42 ?_
      refine lv_topi (fun x_8 ex_8 => ?_)
      refine lv_istore_n (lv' := [(2, .int x_8), (3, .int x3), (0, .ref h), (1, .int p0)]) hx hb dX2_bindsOf_43 rfl hl (by decide) rfl (fun ls hl => ?_)
      obtain ⟨x_9, ex_9⟩ : ∃ z : Int32, z = x3 + 1 := ⟨_, rfl⟩
      refine lv_iinc (v := x_9) (lv' := [(3, .int x_9), (2, .int x_8), (0, .ref h), (1, .int p0)]) hx hb dX2_bindsOf_44 hl (k := 1) rfl (by rw [ex_9]; rfl) (by decide) rfl (fun ls hl => ?_)
      refine lv_goto (tgt := 4) hx hb dX2_bindsOf_47 (by decide) ?_
      exact ih_1 (i + 1) x_9 x_8 _ (by omega) (ni_add (a := i) (b := 1) ex_9 hx3 (rfl : (1 : Int32) = nI 1)) (by omega) (by have hk9 : u.kd i = r (oF i 0) := hR.hkd (by omega); clear ih_1; clear hret hP hK hts hown hx hb hml hl hk_9 hk_36 hi_X2; subst_vars; simp_all [sumN, one, hx_iff]) (lv_sub hl [0, 1, 2, 3] rfl)
  exact lp_4_1 ((n - 0) + 1) 0 0 0 _ (by omega) (rfl : (0 : Int32) = nI 0) (by omega) rfl (lv_sub hl [0, 1, 2, 3] rfl)

set_option maxHeartbeats 4000000 in
set_option maxRecDepth 100000 in
theorem kX2_weighsOf (l : Launch) (D : va_G) (cI : ClassId) (h hk hf hw ht : Nat) (u : TK) (r : RR) (n : Nat) (hR : Rep n r u) (p0 : Int32) : Met l yX2_weighsOf wsX2_weighsOf ({ frames := 1, cells := 0, slots := 0, locals := 21 }) (PRO D cI [.ref h, .int p0] [(h, .inr (1, [.int u.sz, .int u.dy, .int u.rb, .int u.ins, .int u.fo, .int u.fl, .int u.uw, .int u.lo, .ref hk, .ref hf, .ref hw, .ref ht])), (hk, .inl (cI, 9, .inl u.kd)), (hf, .inl (cI, 9, .inl u.fg)), (hw, .inl (cI, 9, .inl u.wn)), (ht, .inl (cI, 4, .inl u.tl))]) (vp_Si (fun v => v = sumN r p0 3 n)) 0 0 (fun _ => False) := by
  refine st_roi (cc := cX2_weighsOf) (maxL := 4) (rt := .int) (by decide) rfl (Nat.le_of_ble_eq_true rfl) (fun _ _ => rfl) ?_
  intro p e s m below meth c Q ls hx hb hml hts hown hP hK hl hret
  replace hown : s.vm.findClass RX2 = some m.cls := hown
  replace hl : lv_has ls 4 [(0, .ref h), (1, .int p0)] := hl
  have hi_X2 : ∀ w ∈ wsX20, w ∈ wsX2_weighsOf := fun w h => List.mem_cons_of_mem _ (List.mem_append_right _ (h))
  have hk_9 := hts (.fieldLink RX2 9 "NestsOfTalk$Talk" "size" "I") (List.mem_of_getElem? (i := 1) rfl)
  have hk_36 := hts (.fieldLink RX2 36 "NestsOfTalk$Talk" "kind" "[I") (List.mem_of_getElem? (i := 2) rfl)
  have hn9 := hR.le
  refine lv_iconst (v := 0) hx hb dX2_weighsOf_0 (by decide) ?_
  refine lv_istore_n (lv' := [(2, .int 0), (0, .ref h), (1, .int p0)]) hx hb dX2_weighsOf_1 rfl hl (by decide) rfl (fun ls hl => ?_)
  refine lv_iconst (v := 0) hx hb dX2_weighsOf_2 (by decide) ?_
  refine lv_istore_n (lv' := [(3, .int 0), (2, .int 0), (0, .ref h), (1, .int p0)]) hx hb dX2_weighsOf_3 rfl hl (by decide) rfl (fun ls hl => ?_)
  have lp_4_1 : ∀ (fu : Nat) (i : Nat) (x3 : Int32) (x2 : Int32) (ls : Array Slot), n - i < fu → (x3 = nI i) → (i ≤ n) → (x2 = sumN r p0 3 i) → lv_has ls 4 [(3, .int x3), (2, .int x2), (0, .ref h), (1, .int p0)] → W p l e ({ frames := 1, cells := 0, slots := 0, locals := 21 }) s m [.ref h, .int p0].toArray below meth c s.heap [] 0 0 Q (F0 m 4 ls []) := by
    intro fu
    induction fu with
    | zero =>
      intro i x3 x2 ls hfu
      exact absurd hfu (Nat.not_lt_zero _)
    | succ fu ih_1 =>
      intro i x3 x2 ls hfu hx3 hi hx2 hl
      refine lv_iload_n hx hb dX2_weighsOf_4 rfl (lv_at hl 0 rfl) ?_
      refine lv_aload_n hx hb dX2_weighsOf_5 rfl (lv_at hl 2 rfl) ?_
      refine va_get (D := D) (ci := 1) (v := .int u.sz) (C := RX2) (T := TX2) (N := 12) hx hb hts hi_X2 hown hK.1 hP 0 rfl rfl 0 (by decide) hk_9 (fun _ h9 => h9) rfl dX2_weighsOf_6 ?_
      refine lv_icmp_ge (tgt := 50) hx hb dX2_weighsOf_9 (by decide) (fun c_2 => ?_) (fun c_2 => ?_)
      · skip
        have n_2 : n ≤ i := (ni_le (a := n) (b := i) hR.hsz hx3 (by omega) (by omega)).mp c_2
        refine lv_iload_n hx hb dX2_weighsOf_50 rfl (lv_at hl 1 rfl) ?_
        exact hret 51 _ x2 dX2_weighsOf_51 (by have e9 : i = n := (by omega); subst e9; exact hx2)
      have n_2 : ¬ n ≤ i := fun q => c_2 ((ni_le (a := n) (b := i) hR.hsz hx3 (by omega) (by omega)).mpr q)
      refine lv_iload_n hx hb dX2_weighsOf_12 rfl (lv_at hl 0 rfl) ?_
      refine lv_bipush (v := 9) hx hb dX2_weighsOf_13 (by decide) ?_
      refine lv_icmp_ge (tgt := 50) hx hb dX2_weighsOf_15 (by decide) (fun c_3 => ?_) (fun c_3 => ?_)
      · skip
        have n_3 : 9 ≤ i := (ni_le (a := 9) (b := i) (rfl : (9 : Int32) = nI 9) hx3 (by decide) (by omega)).mp c_3
        exfalso; omega
      have n_3 : ¬ 9 ≤ i := fun q => c_3 ((ni_le (a := 9) (b := i) (rfl : (9 : Int32) = nI 9) hx3 (by decide) (by omega)).mpr q)
      refine lv_iload_n hx hb dX2_weighsOf_18 rfl (lv_at hl 3 rfl) ?_
      refine lv_iload_n hx hb dX2_weighsOf_19 rfl (lv_at hl 0 rfl) ?_
      refine lv_ishr hx hb dX2_weighsOf_20 ?_
      refine lv_iconst (v := 1) hx hb dX2_weighsOf_21 (by decide) ?_
      refine lv_iand hx hb dX2_weighsOf_22 ?_
      refine lv_iconst (v := 1) hx hb dX2_weighsOf_23 (by decide) ?_
      refine lv_icmp_ne (tgt := 44) hx hb dX2_weighsOf_24 (by decide) (fun c_4 => ?_) (fun c_4 => ?_)
      · skip
        have hb_4 : bt p0 i = false := hx_f hx3 (by omega) c_4
        obtain ⟨x_5, ex_5⟩ : ∃ z : Int32, z = x3 + 1 := ⟨_, rfl⟩
        refine lv_iinc (v := x_5) (lv' := [(3, .int x_5), (2, .int x2), (0, .ref h), (1, .int p0)]) hx hb dX2_weighsOf_44 hl (k := 0) rfl (by rw [ex_5]; rfl) (by decide) rfl (fun ls hl => ?_)
        refine lv_goto (tgt := 4) hx hb dX2_weighsOf_47 (by decide) ?_
        exact ih_1 (i + 1) x_5 x2 _ (by omega) (ni_add (a := i) (b := 1) ex_5 hx3 (rfl : (1 : Int32) = nI 1)) (by omega) (by have hk9 : u.kd i = r (oF i 0) := hR.hkd (by omega); clear ih_1; clear hret hP hK hts hown hx hb hml hl hk_9 hk_36 hi_X2; subst_vars; simp_all [sumN, one, hx_iff]) (lv_sub hl [0, 1, 2, 3] rfl)
      have hb_4 : bt p0 i = true := hx_t hx3 (by omega) c_4
      refine lv_iload_n hx hb dX2_weighsOf_27 rfl (lv_at hl 1 rfl) ?_
      refine lv_aload_n hx hb dX2_weighsOf_28 rfl (lv_at hl 2 rfl) ?_
      refine va_get (D := D) (ci := 1) (v := .ref hk) (C := RX2) (T := TX2) (N := 12) hx hb hts hi_X2 hown hK.1 hP 0 rfl rfl 8 (by decide) hk_36 (fun _ h9 => h9) rfl dX2_weighsOf_29 ?_
      refine lv_iload_n hx hb dX2_weighsOf_32 rfl (lv_at hl 0 rfl) ?_
      refine xa_ld hx hb hK hP 1 rfl (j := i) hx3 (by omega) (by decide) dX2_weighsOf_33 ?_
      refine lv_aload_n hx hb dX2_weighsOf_34 rfl (lv_at hl 2 rfl) ?_
      refine lv_iload_n hx hb dX2_weighsOf_35 rfl (lv_at hl 0 rfl) ?_
      refine xc_Vi (As := [.int x3]) (rest := [.int (u.kd i), .int x2]) ⟨hx, hb, hml, hown, hts⟩ (kX2_freshOf l D cI h hk hf hw ht u r n hR x3 i hx3 (by omega)) (cwV 1 hts gX2_weighsOf_X2_freshOf rfl rfl rfl hv_X2_freshOf ⟨Nat.le_of_ble_eq_true rfl, Nat.le_of_ble_eq_true rfl⟩) hK hP [0, 1, 2, 3, 4] rfl 0 rfl rfl rfl hl.1 rfl (Nat.le_of_ble_eq_true rfl) dX2_weighsOf_36 ⟨Nat.zero_le _, Nat.zero_le _⟩ (fun r_6 hr_6 => ?_)
      refine xc_Si (As := [.int (u.kd i), .int r_6]) (rest := [.int x2]) ⟨hx, hb, hml, hown, hts⟩ (kX1_weighsOfKind l D cI (u.kd i) r_6) (va_cwS 2 hts gX2_weighsOf_X1_weighsOfKind rfl rfl rfl hs_X1_weighsOfKind ⟨Nat.le_of_ble_eq_true rfl, Nat.le_of_ble_eq_true rfl⟩) hK hP [] rfl rfl hl.1 rfl (Nat.le_of_ble_eq_true rfl) dX2_weighsOf_39 ⟨Nat.zero_le _, Nat.zero_le _⟩ (fun r_7 hr_7 => ?_)
      refine lv_iadd hx hb dX2_weighsOf_42 ?_
      refine lv_topi (fun x_8 ex_8 => ?_)
      refine lv_istore_n (lv' := [(2, .int x_8), (3, .int x3), (0, .ref h), (1, .int p0)]) hx hb dX2_weighsOf_43 rfl hl (by decide) rfl (fun ls hl => ?_)
      obtain ⟨x_9, ex_9⟩ : ∃ z : Int32, z = x3 + 1 := ⟨_, rfl⟩
      refine lv_iinc (v := x_9) (lv' := [(3, .int x_9), (2, .int x_8), (0, .ref h), (1, .int p0)]) hx hb dX2_weighsOf_44 hl (k := 1) rfl (by rw [ex_9]; rfl) (by decide) rfl (fun ls hl => ?_)
      refine lv_goto (tgt := 4) hx hb dX2_weighsOf_47 (by decide) ?_
      exact ih_1 (i + 1) x_9 x_8 _ (by omega) (ni_add (a := i) (b := 1) ex_9 hx3 (rfl : (1 : Int32) = nI 1)) (by omega) (by have hk9 : u.kd i = r (oF i 0) := hR.hkd (by omega); clear ih_1; clear hret hP hK hts hown hx hb hml hl hk_9 hk_36 hi_X2; subst_vars; simp_all [sumN, one, hx_iff]) (lv_sub hl [0, 1, 2, 3] rfl)
  exact lp_4_1 ((n - 0) + 1) 0 0 0 _ (by omega) (rfl : (0 : Int32) = nI 0) (by omega) rfl (lv_sub hl [0, 1, 2, 3] rfl)

set_option maxHeartbeats 4000000 in
set_option maxRecDepth 100000 in
theorem kX2_holds (l : Launch) (D : va_G) (cI : ClassId) (h hk hf hw ht : Nat) (u : TK) (r : RR) (n : Nat) (hR : Rep n r u) (p0 : Int32) : Met l yX2_holds wsX2_holds ({ frames := 1, cells := 0, slots := 0, locals := 21 }) (PRO D cI [.ref h, .int p0] [(h, .inr (1, [.int u.sz, .int u.dy, .int u.rb, .int u.ins, .int u.fo, .int u.fl, .int u.uw, .int u.lo, .ref hk, .ref hf, .ref hw, .ref ht])), (hk, .inl (cI, 9, .inl u.kd)), (hf, .inl (cI, 9, .inl u.fg)), (hw, .inl (cI, 9, .inl u.wn)), (ht, .inl (cI, 4, .inl u.tl))]) (vp_Si (fun v => v = (if hld r n p0 = true then 1 else 0))) 0 0 (fun _ => False) := by
  refine st_roi (cc := cX2_holds) (maxL := 5) (rt := .boolean) (by decide) rfl (Nat.le_of_ble_eq_true rfl) (by intro v h; subst h; split <;> rfl) ?_
  intro p e s m below meth c Q ls hx hb hml hts hown hP hK hl hret
  replace hown : s.vm.findClass RX2 = some m.cls := hown
  replace hl : lv_has ls 5 [(0, .ref h), (1, .int p0)] := hl
  have hi_X2 : ∀ w ∈ wsX20, w ∈ wsX2_holds := fun w h => List.mem_cons_of_mem _ (List.mem_append_right _ (h))
  have hk_9 := hts (.fieldLink RX2 9 "NestsOfTalk$Talk" "size" "I") (List.mem_of_getElem? (i := 1) rfl)
  have hk_36 := hts (.fieldLink RX2 36 "NestsOfTalk$Talk" "kind" "[I") (List.mem_of_getElem? (i := 2) rfl)
  have hn9 := hR.le
  refine lv_iconst (v := 0) hx hb dX2_holds_0 (by decide) ?_
  refine lv_istore_n (lv' := [(2, .int 0), (0, .ref h), (1, .int p0)]) hx hb dX2_holds_1 rfl hl (by decide) rfl (fun ls hl => ?_)
  refine lv_iconst (v := 0) hx hb dX2_holds_2 (by decide) ?_
  refine lv_istore_n (lv' := [(3, .int 0), (2, .int 0), (0, .ref h), (1, .int p0)]) hx hb dX2_holds_3 rfl hl (by decide) rfl (fun ls hl => ?_)
  have lp_4_1 : ∀ (fu : Nat) (i : Nat) (x3 : Int32) (x2 : Int32) (ls : Array Slot), n - i < fu → (x3 = nI i) → (i ≤ n) → (x2 = sumN r p0 2 i - sumN r p0 3 i) → lv_has ls 5 [(3, .int x3), (2, .int x2), (0, .ref h), (1, .int p0)] → W p l e ({ frames := 1, cells := 0, slots := 0, locals := 21 }) s m [.ref h, .int p0].toArray below meth c s.heap [] 0 0 Q (F0 m 4 ls []) := by
    intro fu
    induction fu with
    | zero =>
      intro i x3 x2 ls hfu
      exact absurd hfu (Nat.not_lt_zero _)
    | succ fu ih_1 =>
      intro i x3 x2 ls hfu hx3 hi hx2 hl
      refine lv_iload_n hx hb dX2_holds_4 rfl (lv_at hl 0 rfl) ?_
      refine lv_aload_n hx hb dX2_holds_5 rfl (lv_at hl 2 rfl) ?_
      refine va_get (D := D) (ci := 1) (v := .int u.sz) (C := RX2) (T := TX2) (N := 12) hx hb hts hi_X2 hown hK.1 hP 0 rfl rfl 0 (by decide) hk_9 (fun _ h9 => h9) rfl dX2_holds_6 ?_
      refine lv_icmp_ge (tgt := 66) hx hb dX2_holds_9 (by decide) (fun c_2 => ?_) (fun c_2 => ?_)
      · skip
        have n_2 : n ≤ i := (ni_le (a := n) (b := i) hR.hsz hx3 (by omega) (by omega)).mp c_2
        refine lv_iload_n hx hb dX2_holds_66 rfl (lv_at hl 1 rfl) ?_
        refine lv_if_lt (tgt := 74) hx hb dX2_holds_67 (by decide) (fun c_3 => ?_) (fun c_3 => ?_)
        · skip
          refine lv_iconst (v := 0) hx hb dX2_holds_74 (by decide) ?_
          exact hret 75 _ 0 dX2_holds_75 (by have e9 : i = n := (by omega); subst e9; rw [hx2] at c_3; rw [if_neg (fun q => absurd ((hld_spare hR.inv p0).2 q) (Int32.not_le.2 c_3))])
        refine lv_iconst (v := 1) hx hb dX2_holds_70 (by decide) ?_
        refine lv_goto (tgt := 75) hx hb dX2_holds_71 (by decide) ?_
        exact hret 75 _ 1 dX2_holds_75 (by have e9 : i = n := (by omega); subst e9; rw [hx2] at c_3; rw [if_pos ((hld_spare hR.inv p0).1 (Int32.not_lt.1 c_3))])
      have n_2 : ¬ n ≤ i := fun q => c_2 ((ni_le (a := n) (b := i) hR.hsz hx3 (by omega) (by omega)).mpr q)
      refine lv_iload_n hx hb dX2_holds_12 rfl (lv_at hl 0 rfl) ?_
      refine lv_bipush (v := 9) hx hb dX2_holds_13 (by decide) ?_
      refine lv_icmp_ge (tgt := 66) hx hb dX2_holds_15 (by decide) (fun c_4 => ?_) (fun c_4 => ?_)
      · skip
        have n_4 : 9 ≤ i := (ni_le (a := 9) (b := i) (rfl : (9 : Int32) = nI 9) hx3 (by decide) (by omega)).mp c_4
        exfalso; omega
      have n_4 : ¬ 9 ≤ i := fun q => c_4 ((ni_le (a := 9) (b := i) (rfl : (9 : Int32) = nI 9) hx3 (by decide) (by omega)).mpr q)
      refine lv_iload_n hx hb dX2_holds_18 rfl (lv_at hl 3 rfl) ?_
      refine lv_iload_n hx hb dX2_holds_19 rfl (lv_at hl 0 rfl) ?_
      refine lv_ishr hx hb dX2_holds_20 ?_
      refine lv_iconst (v := 1) hx hb dX2_holds_21 (by decide) ?_
      refine lv_iand hx hb dX2_holds_22 ?_
      refine lv_iconst (v := 1) hx hb dX2_holds_23 (by decide) ?_
      refine lv_icmp_ne (tgt := 60) hx hb dX2_holds_24 (by decide) (fun c_5 => ?_) (fun c_5 => ?_)
      · skip
        have hb_5 : bt p0 i = false := hx_f hx3 (by omega) c_5
        obtain ⟨x_6, ex_6⟩ : ∃ z : Int32, z = x3 + 1 := ⟨_, rfl⟩
        refine lv_iinc (v := x_6) (lv' := [(3, .int x_6), (2, .int x2), (0, .ref h), (1, .int p0)]) hx hb dX2_holds_60 hl (k := 0) rfl (by rw [ex_6]; rfl) (by decide) rfl (fun ls hl => ?_)
        refine lv_goto (tgt := 4) hx hb dX2_holds_63 (by decide) ?_
        exact ih_1 (i + 1) x_6 x2 _ (by omega) (ni_add (a := i) (b := 1) ex_6 hx3 (rfl : (1 : Int32) = nI 1)) (by omega) (by clear ih_1; clear hret hP hK hts hown hx hb hml hl hk_9 hk_36 hi_X2; subst_vars; simp_all [sumN, hx_iff]) (lv_sub hl [0, 1, 2, 3] rfl)
      have hb_5 : bt p0 i = true := hx_t hx3 (by omega) c_5
      refine lv_aload_n hx hb dX2_holds_27 rfl (lv_at hl 2 rfl) ?_
      refine lv_iload_n hx hb dX2_holds_28 rfl (lv_at hl 0 rfl) ?_
      refine xc_Vi (As := [.int x3]) (rest := []) ⟨hx, hb, hml, hown, hts⟩ (kX2_freshOf l D cI h hk hf hw ht u r n hR x3 i hx3 (by omega)) (cwV 1 hts gX2_holds_X2_freshOf rfl rfl rfl hv_X2_freshOf ⟨Nat.le_of_ble_eq_true rfl, Nat.le_of_ble_eq_true rfl⟩) hK hP [0, 1, 2, 3, 4] rfl 0 rfl rfl rfl hl.1 rfl (Nat.le_of_ble_eq_true rfl) dX2_holds_29 ⟨Nat.zero_le _, Nat.zero_le _⟩ (fun r_7 hr_7 => ?_)
      refine lv_istore (lv' := [(4, .int r_7), (3, .int x3), (2, .int x2), (0, .ref h), (1, .int p0)]) hx hb dX2_holds_32 hl (by decide) rfl (fun ls hl => ?_)
      refine lv_iload_n hx hb dX2_holds_34 rfl (lv_at hl 2 rfl) ?_
      refine lv_aload_n hx hb dX2_holds_35 rfl (lv_at hl 3 rfl) ?_
      refine va_get (D := D) (ci := 1) (v := .ref hk) (C := RX2) (T := TX2) (N := 12) hx hb hts hi_X2 hown hK.1 hP 0 rfl rfl 8 (by decide) hk_36 (fun _ h9 => h9) rfl dX2_holds_36 ?_
      refine lv_iload_n hx hb dX2_holds_39 rfl (lv_at hl 1 rfl) ?_
      refine xa_ld hx hb hK hP 1 rfl (j := i) hx3 (by omega) (by decide) dX2_holds_40 ?_
      refine lv_iload hx hb dX2_holds_41 (lv_at hl 0 rfl) ?_
      refine xc_Si (As := [.int (u.kd i), .int r_7]) (rest := [.int x2]) ⟨hx, hb, hml, hown, hts⟩ (kX1_bindsOfKind l D cI (u.kd i) r_7) (va_cwS 2 hts gX2_holds_X1_bindsOfKind rfl rfl rfl hs_X1_bindsOfKind ⟨Nat.le_of_ble_eq_true rfl, Nat.le_of_ble_eq_true rfl⟩) hK hP [] rfl rfl hl.1 rfl (Nat.le_of_ble_eq_true rfl) dX2_holds_43 ⟨Nat.zero_le _, Nat.zero_le _⟩ (fun r_8 hr_8 => ?_)
      refine lv_aload_n hx hb dX2_holds_46 rfl (lv_at hl 3 rfl) ?_
      refine va_get (D := D) (ci := 1) (v := .ref hk) (C := RX2) (T := TX2) (N := 12) hx hb hts hi_X2 hown hK.1 hP 0 rfl rfl 8 (by decide) hk_36 (fun _ h9 => h9) rfl dX2_holds_47 ?_
      refine lv_iload_n hx hb dX2_holds_50 rfl (lv_at hl 1 rfl) ?_
      refine xa_ld hx hb hK hP 1 rfl (j := i) hx3 (by omega) (by decide) dX2_holds_51 ?_
      refine lv_iload hx hb dX2_holds_52 (lv_at hl 0 rfl) ?_
      refine xc_Si (As := [.int (u.kd i), .int r_7]) (rest := [.int r_8, .int x2]) ⟨hx, hb, hml, hown, hts⟩ (kX1_weighsOfKind l D cI (u.kd i) r_7) (va_cwS 2 hts gX2_holds_X1_weighsOfKind rfl rfl rfl hs_X1_weighsOfKind ⟨Nat.le_of_ble_eq_true rfl, Nat.le_of_ble_eq_true rfl⟩) hK hP [] rfl rfl hl.1 rfl (Nat.le_of_ble_eq_true rfl) dX2_holds_54 ⟨Nat.zero_le _, Nat.zero_le _⟩ (fun r_9 hr_9 => ?_)
      refine lv_isub hx hb dX2_holds_57 ?_
      refine lv_iadd hx hb dX2_holds_58 ?_
      refine lv_topi (fun x_10 ex_10 => ?_)
      refine lv_istore_n (lv' := [(2, .int x_10), (4, .int r_7), (3, .int x3), (0, .ref h), (1, .int p0)]) hx hb dX2_holds_59 rfl hl (by decide) rfl (fun ls hl => ?_)
      obtain ⟨x_11, ex_11⟩ : ∃ z : Int32, z = x3 + 1 := ⟨_, rfl⟩
      refine lv_iinc (v := x_11) (lv' := [(3, .int x_11), (2, .int x_10), (4, .int r_7), (0, .ref h), (1, .int p0)]) hx hb dX2_holds_60 hl (k := 2) rfl (by rw [ex_11]; rfl) (by decide) rfl (fun ls hl => ?_)
      refine lv_goto (tgt := 4) hx hb dX2_holds_63 (by decide) ?_
      exact ih_1 (i + 1) x_11 x_10 _ (by omega) (ni_add (a := i) (b := 1) ex_11 hx3 (rfl : (1 : Int32) = nI 1)) (by omega) (by have hk9 : u.kd i = r (oF i 0) := hR.hkd (by omega); clear ih_1; clear hret hP hK hts hown hx hb hml hl hk_9 hk_36 hi_X2; subst_vars; simp_all [sumN, one, hx_iff, add_sub4]) (lv_sub hl [0, 1, 3, 4] rfl)
  exact lp_4_1 ((n - 0) + 1) 0 0 0 _ (by omega) (rfl : (0 : Int32) = nI 0) (by omega) (by rw [sumN, sumN]; decide) (lv_sub hl [0, 1, 2, 3] rfl)

set_option maxHeartbeats 4000000 in
set_option maxRecDepth 100000 in
theorem kX2_allWorn (l : Launch) (D : va_G) (cI : ClassId) (h hk hf hw ht : Nat) (u : TK) (r : RR) (n : Nat) (hR : Rep n r u) : Met l yX2_allWorn wsX2_allWorn ({ frames := 0, cells := 0, slots := 0, locals := 0 }) (PRO D cI [.ref h] [(h, .inr (1, [.int u.sz, .int u.dy, .int u.rb, .int u.ins, .int u.fo, .int u.fl, .int u.uw, .int u.lo, .ref hk, .ref hf, .ref hw, .ref ht])), (hk, .inl (cI, 9, .inl u.kd)), (hf, .inl (cI, 9, .inl u.fg)), (hw, .inl (cI, 9, .inl u.wn)), (ht, .inl (cI, 4, .inl u.tl))]) (vp_Si (fun v => v = wrnN r n)) 0 0 (fun _ => False) := by
  refine st_roi (cc := cX2_allWorn) (maxL := 3) (rt := .int) (by decide) rfl (Nat.le_of_ble_eq_true rfl) (fun _ _ => rfl) ?_
  intro p e s m below meth c Q ls hx hb hml hts hown hP hK hl hret
  replace hown : s.vm.findClass RX2 = some m.cls := hown
  replace hl : lv_has ls 3 [(0, .ref h)] := hl
  have hi_X2 : ∀ w ∈ wsX20, w ∈ wsX2_allWorn := fun w h => List.mem_cons_of_mem _ (List.mem_append_right _ (h))
  have hk_9 := hts (.fieldLink RX2 9 "NestsOfTalk$Talk" "size" "I") (List.mem_of_getElem? (i := 1) rfl)
  have hk_43 := hts (.fieldLink RX2 43 "NestsOfTalk$Talk" "worn" "[I") (List.mem_of_getElem? (i := 2) rfl)
  have hn9 := hR.le
  refine lv_iconst (v := 0) hx hb dX2_allWorn_0 (by decide) ?_
  refine lv_istore_n (lv' := [(1, .int 0), (0, .ref h)]) hx hb dX2_allWorn_1 rfl hl (by decide) rfl (fun ls hl => ?_)
  refine lv_iconst (v := 0) hx hb dX2_allWorn_2 (by decide) ?_
  refine lv_istore_n (lv' := [(2, .int 0), (1, .int 0), (0, .ref h)]) hx hb dX2_allWorn_3 rfl hl (by decide) rfl (fun ls hl => ?_)
  have lp_4_1 : ∀ (fu : Nat) (i : Nat) (x2 : Int32) (x1 : Int32) (ls : Array Slot), n - i < fu → (x2 = nI i) → (i ≤ n) → (x1 = wrnN r i) → lv_has ls 3 [(2, .int x2), (1, .int x1), (0, .ref h)] → W p l e ({ frames := 0, cells := 0, slots := 0, locals := 0 }) s m [.ref h].toArray below meth c s.heap [] 0 0 Q (F0 m 4 ls []) := by
    intro fu
    induction fu with
    | zero =>
      intro i x2 x1 ls hfu
      exact absurd hfu (Nat.not_lt_zero _)
    | succ fu ih_1 =>
      intro i x2 x1 ls hfu hx2 hi hx1 hl
      refine lv_iload_n hx hb dX2_allWorn_4 rfl (lv_at hl 0 rfl) ?_
      refine lv_aload_n hx hb dX2_allWorn_5 rfl (lv_at hl 2 rfl) ?_
      refine va_get (D := D) (ci := 1) (v := .int u.sz) (C := RX2) (T := TX2) (N := 12) hx hb hts hi_X2 hown hK.1 hP 0 rfl rfl 0 (by decide) hk_9 (fun _ h9 => h9) rfl dX2_allWorn_6 ?_
      refine lv_icmp_ge (tgt := 33) hx hb dX2_allWorn_9 (by decide) (fun c_2 => ?_) (fun c_2 => ?_)
      · skip
        have n_2 : n ≤ i := (ni_le (a := n) (b := i) hR.hsz hx2 (by omega) (by omega)).mp c_2
        refine lv_iload_n hx hb dX2_allWorn_33 rfl (lv_at hl 1 rfl) ?_
        exact hret 34 _ x1 dX2_allWorn_34 (by have e9 : i = n := (by omega); subst e9; exact hx1)
      have n_2 : ¬ n ≤ i := fun q => c_2 ((ni_le (a := n) (b := i) hR.hsz hx2 (by omega) (by omega)).mpr q)
      refine lv_iload_n hx hb dX2_allWorn_12 rfl (lv_at hl 0 rfl) ?_
      refine lv_bipush (v := 9) hx hb dX2_allWorn_13 (by decide) ?_
      refine lv_icmp_ge (tgt := 33) hx hb dX2_allWorn_15 (by decide) (fun c_3 => ?_) (fun c_3 => ?_)
      · skip
        have n_3 : 9 ≤ i := (ni_le (a := 9) (b := i) (rfl : (9 : Int32) = nI 9) hx2 (by decide) (by omega)).mp c_3
        exfalso; omega
      have n_3 : ¬ 9 ≤ i := fun q => c_3 ((ni_le (a := 9) (b := i) (rfl : (9 : Int32) = nI 9) hx2 (by decide) (by omega)).mpr q)
      refine lv_iload_n hx hb dX2_allWorn_18 rfl (lv_at hl 1 rfl) ?_
      refine lv_aload_n hx hb dX2_allWorn_19 rfl (lv_at hl 2 rfl) ?_
      refine va_get (D := D) (ci := 1) (v := .ref hw) (C := RX2) (T := TX2) (N := 12) hx hb hts hi_X2 hown hK.1 hP 0 rfl rfl 10 (by decide) hk_43 (fun _ h9 => h9) rfl dX2_allWorn_20 ?_
      refine lv_iload_n hx hb dX2_allWorn_23 rfl (lv_at hl 0 rfl) ?_
      refine xa_ld hx hb hK hP 3 rfl (j := i) hx2 (by omega) (by decide) dX2_allWorn_24 ?_
      refine lv_iadd hx hb dX2_allWorn_25 ?_
      refine lv_topi (fun x_4 ex_4 => ?_)
      refine lv_istore_n (lv' := [(1, .int x_4), (2, .int x2), (0, .ref h)]) hx hb dX2_allWorn_26 rfl hl (by decide) rfl (fun ls hl => ?_)
      obtain ⟨x_5, ex_5⟩ : ∃ z : Int32, z = x2 + 1 := ⟨_, rfl⟩
      refine lv_iinc (v := x_5) (lv' := [(2, .int x_5), (1, .int x_4), (0, .ref h)]) hx hb dX2_allWorn_27 hl (k := 1) rfl (by rw [ex_5]; rfl) (by decide) rfl (fun ls hl => ?_)
      refine lv_goto (tgt := 4) hx hb dX2_allWorn_30 (by decide) ?_
      exact ih_1 (i + 1) x_5 x_4 _ (by omega) (ni_add (a := i) (b := 1) ex_5 hx2 (rfl : (1 : Int32) = nI 1)) (by omega) (by have hk9 : u.wn i = r (oF i 3) := hR.hwn (by omega); clear ih_1; clear hret hP hK hts hown hx hb hml hl hk_9 hk_43 hi_X2; subst_vars; simp_all [wrnN]) (lv_sub hl [0, 1, 2] rfl)
  exact lp_4_1 ((n - 0) + 1) 0 0 0 _ (by omega) (rfl : (0 : Int32) = nI 0) (by omega) rfl (lv_sub hl [0, 1, 2] rfl)

set_option maxHeartbeats 4000000 in
set_option maxRecDepth 100000 in
theorem kX2_whom (l : Launch) (D : va_G) (cI : ClassId) (h hk hf hw ht : Nat) (u : TK) (r : RR) (n : Nat) (hR : Rep n r u) (p0 : Int32) (t0 : Nat) (hp0 : p0 = nI t0) (ht0 : t0 < n) (hlo : u.lo = 0) (hab : Abt n r) : Met l yX2_whom wsX2_whom ({ frames := 0, cells := 0, slots := 0, locals := 0 }) (PRO D cI [.ref h, .int p0] [(h, .inr (1, [.int u.sz, .int u.dy, .int u.rb, .int u.ins, .int u.fo, .int u.fl, .int u.uw, .int u.lo, .ref hk, .ref hf, .ref hw, .ref ht])), (hk, .inl (cI, 9, .inl u.kd)), (hf, .inl (cI, 9, .inl u.fg)), (hw, .inl (cI, 9, .inl u.wn)), (ht, .inl (cI, 4, .inl u.tl))]) (vp_Si (fun v => v = r (oF t0 2))) 0 0 (fun _ => False) := by
  refine st_roi (cc := cX2_whom) (maxL := 3) (rt := .int) (by decide) rfl (Nat.le_of_ble_eq_true rfl) (fun _ _ => rfl) ?_
  intro p e s m below meth c Q ls hx hb hml hts hown hP hK hl hret
  replace hown : s.vm.findClass RX2 = some m.cls := hown
  replace hl : lv_has ls 3 [(0, .ref h), (1, .int p0)] := hl
  have hi_X2 : ∀ w ∈ wsX20, w ∈ wsX2_whom := fun w h => List.mem_cons_of_mem _ (List.mem_append_right _ (h))
  have hk_46 := hts (.fieldLink RX2 46 "NestsOfTalk$Talk" "told" "[I") (List.mem_of_getElem? (i := 1) rfl)
  have hn9 := hR.le
  refine lv_iconst (v := 0) hx hb dX2_whom_0 (by decide) ?_
  refine lv_istore_n (lv' := [(2, .int 0), (0, .ref h), (1, .int p0)]) hx hb dX2_whom_1 rfl hl (by decide) rfl (fun ls hl => ?_)
  have lp_2_1 : ∀ (fu : Nat) (i : Nat) (x2 : Int32) (ls : Array Slot), 4 - i < fu → (x2 = nI i) → (i ≤ 4) → (∀ j, j < i → ¬ r (oF t0 2) = nI j) → lv_has ls 3 [(2, .int x2), (0, .ref h), (1, .int p0)] → W p l e ({ frames := 0, cells := 0, slots := 0, locals := 0 }) s m [.ref h, .int p0].toArray below meth c s.heap [] 0 0 Q (F0 m 2 ls []) := by
    intro fu
    induction fu with
    | zero =>
      intro i x2 ls hfu
      exact absurd hfu (Nat.not_lt_zero _)
    | succ fu ih_1 =>
      intro i x2 ls hfu hx2 hi hj hl
      refine lv_iload_n hx hb dX2_whom_2 rfl (lv_at hl 0 rfl) ?_
      refine lv_iconst (v := 4) hx hb dX2_whom_3 (by decide) ?_
      refine lv_icmp_ge (tgt := 29) hx hb dX2_whom_4 (by decide) (fun c_2 => ?_) (fun c_2 => ?_)
      · skip
        have n_2 : 4 ≤ i := (ni_le (a := 4) (b := i) (rfl : (4 : Int32) = nI 4) hx2 (by decide) (by omega)).mp c_2
        refine lv_bipush (v := (-9)) hx hb dX2_whom_29 (by decide) ?_
        exact hret 31 _ (-9) dX2_whom_31 (by obtain ⟨a9, ha9, e9⟩ := hab t0 ht0; exact absurd e9 (hj a9 (by omega)))
      have n_2 : ¬ 4 ≤ i := fun q => c_2 ((ni_le (a := 4) (b := i) (rfl : (4 : Int32) = nI 4) hx2 (by decide) (by omega)).mpr q)
      refine lv_aload_n hx hb dX2_whom_7 rfl (lv_at hl 1 rfl) ?_
      refine va_get (D := D) (ci := 1) (v := .ref ht) (C := RX2) (T := TX2) (N := 12) hx hb hts hi_X2 hown hK.1 hP 0 rfl rfl 11 (by decide) hk_46 (fun _ h9 => h9) rfl dX2_whom_8 ?_
      refine lv_iload_n hx hb dX2_whom_11 rfl (lv_at hl 0 rfl) ?_
      refine xa_ld hx hb hK hP 4 rfl (j := i) hx2 (by omega) (by decide) dX2_whom_12 ?_
      refine lv_iload_n hx hb dX2_whom_13 rfl (lv_at hl 2 rfl) ?_
      refine lv_ishr hx hb dX2_whom_14 ?_
      refine lv_iconst (v := 1) hx hb dX2_whom_15 (by decide) ?_
      refine lv_iand hx hb dX2_whom_16 ?_
      refine lv_iconst (v := 1) hx hb dX2_whom_17 (by decide) ?_
      refine lv_icmp_ne (tgt := 23) hx hb dX2_whom_18 (by decide) (fun c_3 => ?_) (fun c_3 => ?_)
      · skip
        have hb_3 : bt (u.tl i) t0 = false := hx_f hp0 (by omega) c_3
        obtain ⟨x_4, ex_4⟩ : ∃ z : Int32, z = x2 + 1 := ⟨_, rfl⟩
        refine lv_iinc (v := x_4) (lv' := [(2, .int x_4), (0, .ref h), (1, .int p0)]) hx hb dX2_whom_23 hl (k := 0) rfl (by rw [ex_4]; rfl) (by decide) rfl (fun ls hl => ?_)
        refine lv_goto (tgt := 2) hx hb dX2_whom_26 (by decide) ?_
        exact ih_1 (i + 1) x_4 _ (by omega) (ni_add (a := i) (b := 1) ex_4 hx2 (rfl : (1 : Int32) = nI 1)) (by omega) (lt_s hj (fun q => c_3 (by rw [hp0]; exact (hx_iff _ (by omega)).2 (hR.tl_of hlo (by omega) ht0 q)))) (lv_sub hl [0, 1, 2] rfl)
      have hb_3 : bt (u.tl i) t0 = true := hx_t hp0 (by omega) c_3
      refine lv_iload_n hx hb dX2_whom_21 rfl (lv_at hl 0 rfl) ?_
      exact hret 22 _ x2 dX2_whom_22 (by rw [hx2]; exact (hR.tl_is hlo (by omega) ht0 ((hx_iff _ (by omega)).1 (by rw [← hp0]; exact c_3))).symm)
  exact lp_2_1 ((4 - 0) + 1) 0 0 _ (by omega) (rfl : (0 : Int32) = nI 0) (by omega) (fun j hj => absurd hj (Nat.not_lt_zero _)) (lv_sub hl [0, 1, 2] rfl)


theorem hs_X4_more : yX4_more.cls ≠ "java/lang/invoke/MethodHandle" ∧ yX4_more.cls ≠ "java/lang/invoke/VarHandle" ∧ (parseMethodDescriptor yX4_more.desc).map (fun d => d.parameters.length) = some 1 := by decide +kernel
theorem hv_X4_more : yX4_more.cls = RX4 ∧ yX4_more.cls ≠ "java/lang/invoke/MethodHandle" ∧ yX4_more.cls ≠ "java/lang/invoke/VarHandle" ∧ (parseMethodDescriptor yX4_more.desc).map (fun d => d.parameters.length) = some 1 := ⟨rfl, hs_X4_more⟩
theorem hs_X4_softest : yX4_softest.cls ≠ "java/lang/invoke/MethodHandle" ∧ yX4_softest.cls ≠ "java/lang/invoke/VarHandle" ∧ (parseMethodDescriptor yX4_softest.desc).map (fun d => d.parameters.length) = some 2 := by decide +kernel
theorem hv_X4_softest : yX4_softest.cls = RX4 ∧ yX4_softest.cls ≠ "java/lang/invoke/MethodHandle" ∧ yX4_softest.cls ≠ "java/lang/invoke/VarHandle" ∧ (parseMethodDescriptor yX4_softest.desc).map (fun d => d.parameters.length) = some 2 := ⟨rfl, hs_X4_softest⟩
theorem hs_X4_prop : yX4_prop.cls ≠ "java/lang/invoke/MethodHandle" ∧ yX4_prop.cls ≠ "java/lang/invoke/VarHandle" ∧ (parseMethodDescriptor yX4_prop.desc).map (fun d => d.parameters.length) = some 1 := by decide +kernel
theorem hv_X4_prop : yX4_prop.cls = RX4 ∧ yX4_prop.cls ≠ "java/lang/invoke/MethodHandle" ∧ yX4_prop.cls ≠ "java/lang/invoke/VarHandle" ∧ (parseMethodDescriptor yX4_prop.desc).map (fun d => d.parameters.length) = some 1 := ⟨rfl, hs_X4_prop⟩
theorem hs_X4_lighten : yX4_lighten.cls ≠ "java/lang/invoke/MethodHandle" ∧ yX4_lighten.cls ≠ "java/lang/invoke/VarHandle" ∧ (parseMethodDescriptor yX4_lighten.desc).map (fun d => d.parameters.length) = some 1 := by decide +kernel
theorem hv_X4_lighten : yX4_lighten.cls = RX4 ∧ yX4_lighten.cls ≠ "java/lang/invoke/MethodHandle" ∧ yX4_lighten.cls ≠ "java/lang/invoke/VarHandle" ∧ (parseMethodDescriptor yX4_lighten.desc).map (fun d => d.parameters.length) = some 1 := ⟨rfl, hs_X4_lighten⟩
theorem hs_X4_about : yX4_about.cls ≠ "java/lang/invoke/MethodHandle" ∧ yX4_about.cls ≠ "java/lang/invoke/VarHandle" ∧ (parseMethodDescriptor yX4_about.desc).map (fun d => d.parameters.length) = some 2 := by decide +kernel
theorem hv_X4_about : yX4_about.cls = RX4 ∧ yX4_about.cls ≠ "java/lang/invoke/MethodHandle" ∧ yX4_about.cls ≠ "java/lang/invoke/VarHandle" ∧ (parseMethodDescriptor yX4_about.desc).map (fun d => d.parameters.length) = some 2 := ⟨rfl, hs_X4_about⟩
theorem hs_X4_known : yX4_known.cls ≠ "java/lang/invoke/MethodHandle" ∧ yX4_known.cls ≠ "java/lang/invoke/VarHandle" ∧ (parseMethodDescriptor yX4_known.desc).map (fun d => d.parameters.length) = some 0 := by decide +kernel
theorem hv_X4_known : yX4_known.cls = RX4 ∧ yX4_known.cls ≠ "java/lang/invoke/MethodHandle" ∧ yX4_known.cls ≠ "java/lang/invoke/VarHandle" ∧ (parseMethodDescriptor yX4_known.desc).map (fun d => d.parameters.length) = some 0 := ⟨rfl, hs_X4_known⟩
theorem hs_X4_lodge : yX4_lodge.cls ≠ "java/lang/invoke/MethodHandle" ∧ yX4_lodge.cls ≠ "java/lang/invoke/VarHandle" ∧ (parseMethodDescriptor yX4_lodge.desc).map (fun d => d.parameters.length) = some 0 := by decide +kernel
theorem hv_X4_lodge : yX4_lodge.cls = RX4 ∧ yX4_lodge.cls ≠ "java/lang/invoke/MethodHandle" ∧ yX4_lodge.cls ≠ "java/lang/invoke/VarHandle" ∧ (parseMethodDescriptor yX4_lodge.desc).map (fun d => d.parameters.length) = some 0 := ⟨rfl, hs_X4_lodge⟩
theorem hs_X4_fullest : yX4_fullest.cls ≠ "java/lang/invoke/MethodHandle" ∧ yX4_fullest.cls ≠ "java/lang/invoke/VarHandle" ∧ (parseMethodDescriptor yX4_fullest.desc).map (fun d => d.parameters.length) = some 0 := by decide +kernel
theorem hv_X4_fullest : yX4_fullest.cls = RX4 ∧ yX4_fullest.cls ≠ "java/lang/invoke/MethodHandle" ∧ yX4_fullest.cls ≠ "java/lang/invoke/VarHandle" ∧ (parseMethodDescriptor yX4_fullest.desc).map (fun d => d.parameters.length) = some 0 := ⟨rfl, hs_X4_fullest⟩
theorem hs_X4_talk : yX4_talk.cls ≠ "java/lang/invoke/MethodHandle" ∧ yX4_talk.cls ≠ "java/lang/invoke/VarHandle" ∧ (parseMethodDescriptor yX4_talk.desc).map (fun d => d.parameters.length) = some 0 := by decide +kernel
theorem hv_X4_talk : yX4_talk.cls = RX4 ∧ yX4_talk.cls ≠ "java/lang/invoke/MethodHandle" ∧ yX4_talk.cls ≠ "java/lang/invoke/VarHandle" ∧ (parseMethodDescriptor yX4_talk.desc).map (fun d => d.parameters.length) = some 0 := ⟨rfl, hs_X4_talk⟩
set_option maxHeartbeats 4000000 in
set_option maxRecDepth 100000 in
theorem kX4_more (l : Launch) (D : va_G) (cI : ClassId) (sz : Nat) (a0 a1 a2 a3 a4 a5 a6 a7 a8 : Nat) (gg : GG) (mm : MS) (hG : Good gg) (p0 : Int32) : Met l yX4_more wsX4_more ({ frames := 5, cells := 0, slots := 0, locals := 110 }) (PRW D cI [.ref a0, .int p0] [(a0, .inr (3, [.ref a1, .ref a2, .ref a3, .ref a4, .int gg.hs, .ref a5, .ref a6, .ref a7, .int (nI gg.L), .int (nI gg.M), .int mm.pl, .ref a8, .int mm.sd])), (a1, .inl (cI, 49, .inl gg.r)), (a2, .inl (cI, 49, .inl mm.m)), (a3, .inl (cI, 49, .inl gg.im)), (a4, .inl (cI, 49, .inl mm.ws)), (a5, .inl (cI, 96, .inl gg.lt)), (a6, .inl (cI, 16, .inl gg.rw)), (a7, .inl (cI, 7, .inl gg.rf)), (a8, .inl (cI, 3, .inl mm.nb))] sz) (va_Qi (S := GG × MS) (fun v u => (v, u.1) = sp_more gg p0) (BRW D [(a0, .inr (3, [.ref a1, .ref a2, .ref a3, .ref a4, .int gg.hs, .ref a5, .ref a6, .ref a7, .int (nI gg.L), .int (nI gg.M), .int mm.pl, .ref a8, .int mm.sd])), (a1, .inl (cI, 49, .inl gg.r)), (a2, .inl (cI, 49, .inl mm.m)), (a3, .inl (cI, 49, .inl gg.im)), (a4, .inl (cI, 49, .inl mm.ws)), (a5, .inl (cI, 96, .inl gg.lt)), (a6, .inl (cI, 16, .inl gg.rw)), (a7, .inl (cI, 7, .inl gg.rf)), (a8, .inl (cI, 3, .inl mm.nb))] sz (fun u => [(a0, .inr (3, [.ref a1, .ref a2, .ref a3, .ref a4, .int u.1.hs, .ref a5, .ref a6, .ref a7, .int (nI u.1.L), .int (nI u.1.M), .int u.2.pl, .ref a8, .int u.2.sd])), (a1, .inl (cI, 49, .inl u.1.r)), (a2, .inl (cI, 49, .inl u.2.m)), (a3, .inl (cI, 49, .inl u.1.im)), (a4, .inl (cI, 49, .inl u.2.ws)), (a5, .inl (cI, 96, .inl u.1.lt)), (a6, .inl (cI, 16, .inl u.1.rw)), (a7, .inl (cI, 7, .inl u.1.rf)), (a8, .inl (cI, 3, .inl u.2.nb))])) (va_A [(a0, .inr (3, [.ref a1, .ref a2, .ref a3, .ref a4, .int gg.hs, .ref a5, .ref a6, .ref a7, .int (nI gg.L), .int (nI gg.M), .int mm.pl, .ref a8, .int mm.sd])), (a1, .inl (cI, 49, .inl gg.r)), (a2, .inl (cI, 49, .inl mm.m)), (a3, .inl (cI, 49, .inl gg.im)), (a4, .inl (cI, 49, .inl mm.ws)), (a5, .inl (cI, 96, .inl gg.lt)), (a6, .inl (cI, 16, .inl gg.rw)), (a7, .inl (cI, 7, .inl gg.rf)), (a8, .inl (cI, 3, .inl mm.nb))] sz)) 0 0 (va_A [(a0, .inr (3, [.ref a1, .ref a2, .ref a3, .ref a4, .int gg.hs, .ref a5, .ref a6, .ref a7, .int (nI gg.L), .int (nI gg.M), .int mm.pl, .ref a8, .int mm.sd])), (a1, .inl (cI, 49, .inl gg.r)), (a2, .inl (cI, 49, .inl mm.m)), (a3, .inl (cI, 49, .inl gg.im)), (a4, .inl (cI, 49, .inl mm.ws)), (a5, .inl (cI, 96, .inl gg.lt)), (a6, .inl (cI, 16, .inl gg.rw)), (a7, .inl (cI, 7, .inl gg.rf)), (a8, .inl (cI, 3, .inl mm.nb))] sz) := by
  refine st_rwi (cc := cX4_more) (maxL := 6) (rt := .int) (by decide) rfl (Nat.le_of_ble_eq_true rfl) (fun _ _ _ => rfl) ?_
  intro p e s m below meth c Q ls A hx hb hml hts hown hP hK hD hA hS hl hret
  replace hown : s.vm.findClass RX4 = some m.cls := hown
  replace hl : lv_has ls 6 [(0, .ref a0), (1, .int p0)] := hl
  obtain ⟨H, hH⟩ : ∃ z, z = s.heap := ⟨_, rfl⟩
  obtain ⟨locs, hlo⟩ : ∃ z : List Loc, z = [] := ⟨_, rfl⟩
  replace hP : va_P D vwCl [(a0, .inr (3, [.ref a1, .ref a2, .ref a3, .ref a4, .int gg.hs, .ref a5, .ref a6, .ref a7, .int (nI gg.L), .int (nI gg.M), .int mm.pl, .ref a8, .int mm.sd])), (a1, .inl (cI, 49, .inl gg.r)), (a2, .inl (cI, 49, .inl mm.m)), (a3, .inl (cI, 49, .inl gg.im)), (a4, .inl (cI, 49, .inl mm.ws)), (a5, .inl (cI, 96, .inl gg.lt)), (a6, .inl (cI, 16, .inl gg.rw)), (a7, .inl (cI, 7, .inl gg.rf)), (a8, .inl (cI, 3, .inl mm.nb))] H := by rw [hH]; exact hP
  replace hS : va_S A s.heap H locs := by rw [hH, hlo]; exact hS
  show W p l e ({ frames := 5, cells := 0, slots := 0, locals := 110 }) s m [.ref a0, .int p0].toArray below meth c s.heap [] 0 0 Q (F0 m 0 ls [])
  rw [← hlo]
  suffices hgo : W p l e ({ frames := 5, cells := 0, slots := 0, locals := 110 }) s m [.ref a0, .int p0].toArray below meth c H locs 0 0 Q (F0 m 0 ls []) by rw [hH] at hgo; exact hgo
  clear hH hlo
  have hi_X4 : ∀ w ∈ wsX40, w ∈ wsX4_more := fun w h => List.mem_cons_of_mem _ (List.mem_append_right _ (h))
  have hk_9 := hts (.fieldLink RX4 9 "NestsOfTalkModel" "s" "[I") (List.mem_of_getElem? (i := 1) rfl)
  have hI := hG.inv
  have hn9 := hI.le
  have hL96 := hG.L96
  have hM16 := hG.M16
  refine lv_iload_n hx hb dX4_more_0 rfl (lv_at hl 1 rfl) ?_
  refine xc_Si (As := [.int p0]) (rest := []) ⟨hx, hb, hml, hown, hts⟩ (kX4_isWoman l D cI p0) (va_cwS 1 hts gX4_more_X4_isWoman rfl rfl rfl hs_X4_isWoman ⟨Nat.le_of_ble_eq_true rfl, Nat.le_of_ble_eq_true rfl⟩) hK hP [] rfl rfl hl.1 rfl (Nat.le_of_ble_eq_true rfl) dX4_more_1 ⟨Nat.zero_le _, Nat.zero_le _⟩ (fun r_1 hr_1 => ?_)
  refine lv_if_ne (tgt := 13) hx hb dX4_more_4 (by decide) (fun c_2 => ?_) (fun c_2 => ?_)
  · skip
    have hb_2 : womB p0 = true := bool_t hr_1 c_2
    obtain ⟨w_2, hw_2, ew_2⟩ := womB_iff.1 hb_2
    refine lv_aload_n hx hb dX4_more_13 rfl (lv_at hl 0 rfl) ?_
    refine va_get (D := D) (ci := 3) (v := .ref a1) (C := RX4) (T := TX4) (N := 13) hx hb hts hi_X4 hown hK.1 hP 0 rfl rfl 0 (by decide) hk_9 (fun _ h9 => h9) rfl dX4_more_14 ?_
    refine lv_iload_n hx hb dX4_more_17 rfl (lv_at hl 1 rfl) ?_
    refine xc_Si (As := [.ref a1, .int p0]) (rest := []) ⟨hx, hb, hml, hown, hts⟩ (kX4_nestIn l D cI a1 gg.r gg.n hI p0) (va_cwS 2 hts gX4_more_X4_nestIn rfl rfl rfl hs_X4_nestIn ⟨Nat.le_of_ble_eq_true rfl, Nat.le_of_ble_eq_true rfl⟩) hK hP [1] rfl rfl hl.1 rfl (Nat.le_of_ble_eq_true rfl) dX4_more_18 ⟨Nat.zero_le _, Nat.zero_le _⟩ (fun r_3 hr_3 => ?_)
    refine lv_istore_n (lv' := [(2, .int r_3), (0, .ref a0), (1, .int p0)]) hx hb dX4_more_21 rfl hl (by decide) rfl (fun ls hl => ?_)
    refine lv_aload_n hx hb dX4_more_22 rfl (lv_at hl 1 rfl) ?_
    refine va_get (D := D) (ci := 3) (v := .ref a1) (C := RX4) (T := TX4) (N := 13) hx hb hts hi_X4 hown hK.1 hP 0 rfl rfl 0 (by decide) hk_9 (fun _ h9 => h9) rfl dX4_more_23 ?_
    refine lv_iload_n hx hb dX4_more_26 rfl (lv_at hl 2 rfl) ?_
    refine lv_iconst (v := 0) hx hb dX4_more_27 (by decide) ?_
    refine xc_Si (As := [.ref a1, .int p0, .int 0]) (rest := []) ⟨hx, hb, hml, hown, hts⟩ (kX4_ofHer l D cI a1 gg.r gg.n hI p0 0) (va_cwS 3 hts gX4_more_X4_ofHer rfl rfl rfl hs_X4_ofHer ⟨Nat.le_of_ble_eq_true rfl, Nat.le_of_ble_eq_true rfl⟩) hK hP [1] rfl rfl hl.1 rfl (Nat.le_of_ble_eq_true rfl) dX4_more_28 ⟨Nat.zero_le _, Nat.zero_le _⟩ (fun r_4 hr_4 => ?_)
    replace hr_4 : r_4 = sad gg.r gg.n p0 := hr_4
    obtain ⟨S9, hS9, eS9⟩ := sad_nat hn9 p0 (r := gg.r)
    have es9 : r_4 = sad gg.r gg.n p0 := by first | (simp only [hr_3, hr_4]; done) | (simp only [hr_3, hr_4]; rfl)
    have eS8 : r_4 = nI S9 := es9.trans eS9
    have tS9 : tN (sad gg.r gg.n p0) = S9 := by rw [eS9]; exact tN_nI (by omega)
    refine lv_istore_n (lv' := [(3, .int r_4), (2, .int r_3), (0, .ref a0), (1, .int p0)]) hx hb dX4_more_31 rfl hl (by decide) rfl (fun ls hl => ?_)
    refine lv_bipush (v := (-9)) hx hb dX4_more_32 (by decide) ?_
    refine lv_istore (lv' := [(4, .int (-9)), (3, .int r_4), (2, .int r_3), (0, .ref a0), (1, .int p0)]) hx hb dX4_more_34 hl (by decide) rfl (fun ls hl => ?_)
    refine lv_iconst (v := 0) hx hb dX4_more_36 (by decide) ?_
    refine lv_istore (lv' := [(5, .int 0), (4, .int (-9)), (3, .int r_4), (2, .int r_3), (0, .ref a0), (1, .int p0)]) hx hb dX4_more_37 hl (by decide) rfl (fun ls hl => ?_)
    have lp_39_5 : ∀ (fu : Nat) (j : Nat) (x5 : Int32) (x4 : Int32) (ls : Array Slot) (H : Heap) (locs : List Loc), S9 + 1 - j < fu → (x5 = nI j) → (j ≤ S9 + 1) → (x4 = moF gg.r gg.n r_3 r_4 j) → va_P D vwCl [(a0, .inr (3, [.ref a1, .ref a2, .ref a3, .ref a4, .int gg.hs, .ref a5, .ref a6, .ref a7, .int (nI gg.L), .int (nI gg.M), .int mm.pl, .ref a8, .int mm.sd])), (a1, .inl (cI, 49, .inl gg.r)), (a2, .inl (cI, 49, .inl mm.m)), (a3, .inl (cI, 49, .inl gg.im)), (a4, .inl (cI, 49, .inl mm.ws)), (a5, .inl (cI, 96, .inl gg.lt)), (a6, .inl (cI, 16, .inl gg.rw)), (a7, .inl (cI, 7, .inl gg.rf)), (a8, .inl (cI, 3, .inl mm.nb))] H → va_D A [(a0, .inr (3, [.ref a1, .ref a2, .ref a3, .ref a4, .int gg.hs, .ref a5, .ref a6, .ref a7, .int (nI gg.L), .int (nI gg.M), .int mm.pl, .ref a8, .int mm.sd])), (a1, .inl (cI, 49, .inl gg.r)), (a2, .inl (cI, 49, .inl mm.m)), (a3, .inl (cI, 49, .inl gg.im)), (a4, .inl (cI, 49, .inl mm.ws)), (a5, .inl (cI, 96, .inl gg.lt)), (a6, .inl (cI, 16, .inl gg.rw)), (a7, .inl (cI, 7, .inl gg.rf)), (a8, .inl (cI, 3, .inl mm.nb))] → va_S A s.heap H locs → lv_has ls 6 [(5, .int x5), (4, .int x4), (3, .int r_4), (2, .int r_3), (0, .ref a0), (1, .int p0)] → W p l e ({ frames := 5, cells := 0, slots := 0, locals := 110 }) s m [.ref a0, .int p0].toArray below meth c H locs 0 0 Q (F0 m 39 ls []) := by
      intro fu
      induction fu with
      | zero =>
        intro j x5 x4 ls H locs hfu
        exact absurd hfu (Nat.not_lt_zero _)
      | succ fu ih_5 =>
        intro j x5 x4 ls H locs hfu hx5 hi hx4 hP hD hS hl
        refine lv_iload hx hb dX4_more_39 (lv_at hl 0 rfl) ?_
        refine lv_iload_n hx hb dX4_more_41 rfl (lv_at hl 2 rfl) ?_
        refine lv_icmp_gt (tgt := 96) hx hb dX4_more_42 (by decide) (fun c_6 => ?_) (fun c_6 => ?_)
        · skip
          have n_6 : S9 < j := (ni_lt (a := S9) (b := j) eS8 hx5 (by omega) (by omega)).mp c_6
          have d_6 : ¬ x5 ≤ r_4 := Int32.not_le.2 c_6
          have m_6 : ¬ j ≤ S9 := by omega
          refine lv_iload hx hb dX4_more_96 (lv_at hl 1 rfl) ?_
          exact hret 98 _ x4 (gg, mm) _ _ dX4_more_98 (by have e9 : j = S9 + 1 := (by omega); subst e9; simp [sp_more, tS9, hx4, es9, hr_3, hr_4, hb_2]) hP hD hS
        have n_6 : ¬ S9 < j := fun q => c_6 ((ni_lt (a := S9) (b := j) eS8 hx5 (by omega) (by omega)).mpr q)
        have d_6 : x5 ≤ r_4 := Int32.not_lt.1 c_6
        have m_6 : j ≤ S9 := by omega
        refine lv_iload hx hb dX4_more_45 (lv_at hl 0 rfl) ?_
        refine lv_iload_n hx hb dX4_more_47 rfl (lv_at hl 2 rfl) ?_
        refine lv_iconst (v := (-1)) hx hb dX4_more_48 (by decide) ?_
        refine lv_ixor hx hb dX4_more_49 ?_
        refine lv_iand hx hb dX4_more_50 ?_
        refine lv_if_ne (tgt := 90) hx hb dX4_more_51 (by decide) (fun c_7 => ?_) (fun c_7 => ?_)
        · skip
          obtain ⟨x_8, ex_8⟩ : ∃ z : Int32, z = x5 + 1 := ⟨_, rfl⟩
          refine lv_iinc (v := x_8) (lv' := [(5, .int x_8), (4, .int x4), (3, .int r_4), (2, .int r_3), (0, .ref a0), (1, .int p0)]) hx hb dX4_more_90 hl (k := 0) rfl (by rw [ex_8]; rfl) (by decide) rfl (fun ls hl => ?_)
          refine lv_goto (tgt := 39) hx hb dX4_more_93 (by decide) ?_
          exact ih_5 (j + 1) x_8 x4 _ _ _ (by omega) (ni_add (a := j) (b := 1) ex_8 hx5 (rfl : (1 : Int32) = nI 1)) (by omega) (by rw [moF]; simp only [← hx5, ← hx4]; first | (simp only [not_true_eq_false, not_false_eq_true, false_and, and_false, true_and, and_true, or_true, true_or, or_false, false_or, if_true, if_false, Bool.false_eq_true, Bool.true_eq_false, reduceCtorEq, and_self, or_self, ← hx5, ← hx4, ← hr_3, ← hr_4, ← ex_8, c_2, c_6, c_7, n_6, d_6, m_6]; done) | (simp only [not_true_eq_false, not_false_eq_true, false_and, and_false, true_and, and_true, or_true, true_or, or_false, false_or, if_true, if_false, Bool.false_eq_true, Bool.true_eq_false, reduceCtorEq, and_self, or_self, ← hx5, ← hx4, ← hr_3, ← hr_4, ← ex_8, c_2, c_6, c_7, n_6, d_6, m_6]; simp only [hr_3, hr_4, ex_8]; done) | (simp [← hx5, ← hx4, ← hr_3, ← hr_4, ← ex_8, c_2, c_6, c_7, n_6, d_6, m_6]; done)) hP hD hS (lv_sub hl [0, 1, 2, 3, 4, 5] rfl)
        refine lv_iload hx hb dX4_more_54 (lv_at hl 1 rfl) ?_
        refine lv_if_lt (tgt := 72) hx hb dX4_more_56 (by decide) (fun c_9 => ?_) (fun c_9 => ?_)
        · skip
          have d_9 : ¬ 0 ≤ x4 := Int32.not_le.2 c_9
          refine lv_aload_n hx hb dX4_more_72 rfl (lv_at hl 4 rfl) ?_
          refine va_get (D := D) (ci := 3) (v := .ref a1) (C := RX4) (T := TX4) (N := 13) hx hb hts hi_X4 hown hK.1 hP 0 rfl rfl 0 (by decide) hk_9 (fun _ h9 => h9) rfl dX4_more_73 ?_
          refine lv_iload_n hx hb dX4_more_76 rfl (lv_at hl 3 rfl) ?_
          refine lv_iload hx hb dX4_more_77 (lv_at hl 0 rfl) ?_
          refine lv_ior hx hb dX4_more_79 ?_
          refine xc_Si (As := [.ref a1, .int (r_3 ||| x5)]) (rest := []) ⟨hx, hb, hml, hown, hts⟩ (kX4_holdsSet l D cI a1 gg.r gg.n hI (r_3 ||| x5)) (va_cwS 2 hts gX4_more_X4_holdsSet rfl rfl rfl hs_X4_holdsSet ⟨Nat.le_of_ble_eq_true rfl, Nat.le_of_ble_eq_true rfl⟩) hK hP [1] rfl rfl hl.1 rfl (Nat.le_of_ble_eq_true rfl) dX4_more_80 ⟨Nat.zero_le _, Nat.zero_le _⟩ (fun r_10 hr_10 => ?_)
          refine lv_if_eq (tgt := 90) hx hb dX4_more_83 (by decide) (fun c_11 => ?_) (fun c_11 => ?_)
          · skip
            have hb_11 : hld gg.r gg.n (r_3 ||| x5) = false := bool_f hr_10 c_11
            have hbn_11 := hb_11
            try rw [hr_3] at hb_11
            obtain ⟨x_12, ex_12⟩ : ∃ z : Int32, z = x5 + 1 := ⟨_, rfl⟩
            refine lv_iinc (v := x_12) (lv' := [(5, .int x_12), (4, .int x4), (3, .int r_4), (2, .int r_3), (0, .ref a0), (1, .int p0)]) hx hb dX4_more_90 hl (k := 0) rfl (by rw [ex_12]; rfl) (by decide) rfl (fun ls hl => ?_)
            refine lv_goto (tgt := 39) hx hb dX4_more_93 (by decide) ?_
            exact ih_5 (j + 1) x_12 x4 _ _ _ (by omega) (ni_add (a := j) (b := 1) ex_12 hx5 (rfl : (1 : Int32) = nI 1)) (by omega) (by rw [moF]; simp only [← hx5, ← hx4]; first | (simp only [not_true_eq_false, not_false_eq_true, false_and, and_false, true_and, and_true, or_true, true_or, or_false, false_or, if_true, if_false, Bool.false_eq_true, Bool.true_eq_false, reduceCtorEq, and_self, or_self, ← hx5, ← hx4, ← hr_3, ← hr_4, ← ex_12, c_2, c_6, c_7, c_9, c_11, n_6, d_6, m_6, d_9, hbn_11]; done) | (simp only [not_true_eq_false, not_false_eq_true, false_and, and_false, true_and, and_true, or_true, true_or, or_false, false_or, if_true, if_false, Bool.false_eq_true, Bool.true_eq_false, reduceCtorEq, and_self, or_self, ← hx5, ← hx4, ← hr_3, ← hr_4, ← ex_12, c_2, c_6, c_7, c_9, c_11, n_6, d_6, m_6, d_9, hbn_11]; simp only [hr_3, hr_4, ex_12]; done) | (simp [← hx5, ← hx4, ← hr_3, ← hr_4, ← ex_12, c_2, c_6, c_7, c_9, c_11, n_6, d_6, m_6, d_9, hbn_11]; done)) hP hD hS (lv_sub hl [0, 1, 2, 3, 4, 5] rfl)
          have hb_11 : hld gg.r gg.n (r_3 ||| x5) = true := bool_t hr_10 c_11
          have hbn_11 := hb_11
          try rw [hr_3] at hb_11
          refine lv_iload hx hb dX4_more_86 (lv_at hl 0 rfl) ?_
          refine lv_istore (lv' := [(4, .int x5), (5, .int x5), (3, .int r_4), (2, .int r_3), (0, .ref a0), (1, .int p0)]) hx hb dX4_more_88 hl (by decide) rfl (fun ls hl => ?_)
          obtain ⟨x_13, ex_13⟩ : ∃ z : Int32, z = x5 + 1 := ⟨_, rfl⟩
          refine lv_iinc (v := x_13) (lv' := [(5, .int x_13), (4, .int x5), (3, .int r_4), (2, .int r_3), (0, .ref a0), (1, .int p0)]) hx hb dX4_more_90 hl (k := 1) rfl (by rw [ex_13]; rfl) (by decide) rfl (fun ls hl => ?_)
          refine lv_goto (tgt := 39) hx hb dX4_more_93 (by decide) ?_
          exact ih_5 (j + 1) x_13 x5 _ _ _ (by omega) (ni_add (a := j) (b := 1) ex_13 hx5 (rfl : (1 : Int32) = nI 1)) (by omega) (by rw [moF]; simp only [← hx5, ← hx4]; first | (simp only [not_true_eq_false, not_false_eq_true, false_and, and_false, true_and, and_true, or_true, true_or, or_false, false_or, if_true, if_false, Bool.false_eq_true, Bool.true_eq_false, reduceCtorEq, and_self, or_self, ← hx5, ← hx4, ← hr_3, ← hr_4, ← ex_13, c_2, c_6, c_7, c_9, c_11, n_6, d_6, m_6, d_9, hbn_11]; done) | (simp only [not_true_eq_false, not_false_eq_true, false_and, and_false, true_and, and_true, or_true, true_or, or_false, false_or, if_true, if_false, Bool.false_eq_true, Bool.true_eq_false, reduceCtorEq, and_self, or_self, ← hx5, ← hx4, ← hr_3, ← hr_4, ← ex_13, c_2, c_6, c_7, c_9, c_11, n_6, d_6, m_6, d_9, hbn_11]; simp only [hr_3, hr_4, ex_13]; done) | (simp [← hx5, ← hx4, ← hr_3, ← hr_4, ← ex_13, c_2, c_6, c_7, c_9, c_11, n_6, d_6, m_6, d_9, hbn_11]; done)) hP hD hS (lv_sub hl [0, 1, 2, 3, 4, 5] rfl)
        have d_9 : 0 ≤ x4 := Int32.not_lt.1 c_9
        refine lv_iload hx hb dX4_more_59 (lv_at hl 0 rfl) ?_
        refine xc_Si (As := [.int x5]) (rest := []) ⟨hx, hb, hml, hown, hts⟩ (kX4_bits l D cI x5) (va_cwS 1 hts gX4_more_X4_bits rfl rfl rfl hs_X4_bits ⟨Nat.le_of_ble_eq_true rfl, Nat.le_of_ble_eq_true rfl⟩) hK hP [] rfl rfl hl.1 rfl (Nat.le_of_ble_eq_true rfl) dX4_more_61 ⟨Nat.zero_le _, Nat.zero_le _⟩ (fun r_14 hr_14 => ?_)
        have hcl_14 := cntN_le x5 10
        refine lv_iload hx hb dX4_more_64 (lv_at hl 1 rfl) ?_
        refine xc_Si (As := [.int x4]) (rest := [.int r_14]) ⟨hx, hb, hml, hown, hts⟩ (kX4_bits l D cI x4) (va_cwS 1 hts gX4_more_X4_bits rfl rfl rfl hs_X4_bits ⟨Nat.le_of_ble_eq_true rfl, Nat.le_of_ble_eq_true rfl⟩) hK hP [] rfl rfl hl.1 rfl (Nat.le_of_ble_eq_true rfl) dX4_more_66 ⟨Nat.zero_le _, Nat.zero_le _⟩ (fun r_15 hr_15 => ?_)
        have hcl_15 := cntN_le x4 10
        refine lv_icmp_ge (tgt := 90) hx hb dX4_more_69 (by decide) (fun c_16 => ?_) (fun c_16 => ?_)
        · skip
          have n_16 : (cntN x4 10) ≤ (cntN x5 10) := (ni_le (a := (cntN x4 10)) (b := (cntN x5 10)) hr_15 hr_14 (by omega) (by omega)).mp c_16
          have d_16 : ¬ r_14 < r_15 := Int32.not_lt.2 c_16
          have m_16 : ¬ (cntN x5 10) < (cntN x4 10) := by omega
          obtain ⟨x_17, ex_17⟩ : ∃ z : Int32, z = x5 + 1 := ⟨_, rfl⟩
          refine lv_iinc (v := x_17) (lv' := [(5, .int x_17), (4, .int x4), (3, .int r_4), (2, .int r_3), (0, .ref a0), (1, .int p0)]) hx hb dX4_more_90 hl (k := 0) rfl (by rw [ex_17]; rfl) (by decide) rfl (fun ls hl => ?_)
          refine lv_goto (tgt := 39) hx hb dX4_more_93 (by decide) ?_
          exact ih_5 (j + 1) x_17 x4 _ _ _ (by omega) (ni_add (a := j) (b := 1) ex_17 hx5 (rfl : (1 : Int32) = nI 1)) (by omega) (by rw [moF]; simp only [← hx5, ← hx4]; first | (simp only [not_true_eq_false, not_false_eq_true, false_and, and_false, true_and, and_true, or_true, true_or, or_false, false_or, if_true, if_false, Bool.false_eq_true, Bool.true_eq_false, reduceCtorEq, and_self, or_self, ← hx5, ← hx4, ← hr_3, ← hr_4, ← hr_14, ← hr_15, ← ex_17, c_2, c_6, c_7, c_9, c_16, n_6, n_16, d_6, m_6, d_9, d_16, m_16]; done) | (simp only [not_true_eq_false, not_false_eq_true, false_and, and_false, true_and, and_true, or_true, true_or, or_false, false_or, if_true, if_false, Bool.false_eq_true, Bool.true_eq_false, reduceCtorEq, and_self, or_self, ← hx5, ← hx4, ← hr_3, ← hr_4, ← hr_14, ← hr_15, ← ex_17, c_2, c_6, c_7, c_9, c_16, n_6, n_16, d_6, m_6, d_9, d_16, m_16]; simp only [hr_3, hr_4, hr_14, hr_15, ex_17]; done) | (simp [← hx5, ← hx4, ← hr_3, ← hr_4, ← hr_14, ← hr_15, ← ex_17, c_2, c_6, c_7, c_9, c_16, n_6, n_16, d_6, m_6, d_9, d_16, m_16]; done)) hP hD hS (lv_sub hl [0, 1, 2, 3, 4, 5] rfl)
        have n_16 : ¬ (cntN x4 10) ≤ (cntN x5 10) := fun q => c_16 ((ni_le (a := (cntN x4 10)) (b := (cntN x5 10)) hr_15 hr_14 (by omega) (by omega)).mpr q)
        have d_16 : r_14 < r_15 := Int32.not_le.1 c_16
        have m_16 : (cntN x5 10) < (cntN x4 10) := by omega
        refine lv_aload_n hx hb dX4_more_72 rfl (lv_at hl 4 rfl) ?_
        refine va_get (D := D) (ci := 3) (v := .ref a1) (C := RX4) (T := TX4) (N := 13) hx hb hts hi_X4 hown hK.1 hP 0 rfl rfl 0 (by decide) hk_9 (fun _ h9 => h9) rfl dX4_more_73 ?_
        refine lv_iload_n hx hb dX4_more_76 rfl (lv_at hl 3 rfl) ?_
        refine lv_iload hx hb dX4_more_77 (lv_at hl 0 rfl) ?_
        refine lv_ior hx hb dX4_more_79 ?_
        refine xc_Si (As := [.ref a1, .int (r_3 ||| x5)]) (rest := []) ⟨hx, hb, hml, hown, hts⟩ (kX4_holdsSet l D cI a1 gg.r gg.n hI (r_3 ||| x5)) (va_cwS 2 hts gX4_more_X4_holdsSet rfl rfl rfl hs_X4_holdsSet ⟨Nat.le_of_ble_eq_true rfl, Nat.le_of_ble_eq_true rfl⟩) hK hP [1] rfl rfl hl.1 rfl (Nat.le_of_ble_eq_true rfl) dX4_more_80 ⟨Nat.zero_le _, Nat.zero_le _⟩ (fun r_18 hr_18 => ?_)
        refine lv_if_eq (tgt := 90) hx hb dX4_more_83 (by decide) (fun c_19 => ?_) (fun c_19 => ?_)
        · skip
          have hb_19 : hld gg.r gg.n (r_3 ||| x5) = false := bool_f hr_18 c_19
          have hbn_19 := hb_19
          try rw [hr_3] at hb_19
          obtain ⟨x_20, ex_20⟩ : ∃ z : Int32, z = x5 + 1 := ⟨_, rfl⟩
          refine lv_iinc (v := x_20) (lv' := [(5, .int x_20), (4, .int x4), (3, .int r_4), (2, .int r_3), (0, .ref a0), (1, .int p0)]) hx hb dX4_more_90 hl (k := 0) rfl (by rw [ex_20]; rfl) (by decide) rfl (fun ls hl => ?_)
          refine lv_goto (tgt := 39) hx hb dX4_more_93 (by decide) ?_
          exact ih_5 (j + 1) x_20 x4 _ _ _ (by omega) (ni_add (a := j) (b := 1) ex_20 hx5 (rfl : (1 : Int32) = nI 1)) (by omega) (by rw [moF]; simp only [← hx5, ← hx4]; first | (simp only [not_true_eq_false, not_false_eq_true, false_and, and_false, true_and, and_true, or_true, true_or, or_false, false_or, if_true, if_false, Bool.false_eq_true, Bool.true_eq_false, reduceCtorEq, and_self, or_self, ← hx5, ← hx4, ← hr_3, ← hr_4, ← hr_14, ← hr_15, ← ex_20, c_2, c_6, c_7, c_9, c_16, c_19, n_6, n_16, d_6, m_6, d_9, d_16, m_16, hbn_19]; done) | (simp only [not_true_eq_false, not_false_eq_true, false_and, and_false, true_and, and_true, or_true, true_or, or_false, false_or, if_true, if_false, Bool.false_eq_true, Bool.true_eq_false, reduceCtorEq, and_self, or_self, ← hx5, ← hx4, ← hr_3, ← hr_4, ← hr_14, ← hr_15, ← ex_20, c_2, c_6, c_7, c_9, c_16, c_19, n_6, n_16, d_6, m_6, d_9, d_16, m_16, hbn_19]; simp only [hr_3, hr_4, hr_14, hr_15, ex_20]; done) | (simp [← hx5, ← hx4, ← hr_3, ← hr_4, ← hr_14, ← hr_15, ← ex_20, c_2, c_6, c_7, c_9, c_16, c_19, n_6, n_16, d_6, m_6, d_9, d_16, m_16, hbn_19]; done)) hP hD hS (lv_sub hl [0, 1, 2, 3, 4, 5] rfl)
        have hb_19 : hld gg.r gg.n (r_3 ||| x5) = true := bool_t hr_18 c_19
        have hbn_19 := hb_19
        try rw [hr_3] at hb_19
        refine lv_iload hx hb dX4_more_86 (lv_at hl 0 rfl) ?_
        refine lv_istore (lv' := [(4, .int x5), (5, .int x5), (3, .int r_4), (2, .int r_3), (0, .ref a0), (1, .int p0)]) hx hb dX4_more_88 hl (by decide) rfl (fun ls hl => ?_)
        obtain ⟨x_21, ex_21⟩ : ∃ z : Int32, z = x5 + 1 := ⟨_, rfl⟩
        refine lv_iinc (v := x_21) (lv' := [(5, .int x_21), (4, .int x5), (3, .int r_4), (2, .int r_3), (0, .ref a0), (1, .int p0)]) hx hb dX4_more_90 hl (k := 1) rfl (by rw [ex_21]; rfl) (by decide) rfl (fun ls hl => ?_)
        refine lv_goto (tgt := 39) hx hb dX4_more_93 (by decide) ?_
        exact ih_5 (j + 1) x_21 x5 _ _ _ (by omega) (ni_add (a := j) (b := 1) ex_21 hx5 (rfl : (1 : Int32) = nI 1)) (by omega) (by rw [moF]; simp only [← hx5, ← hx4]; first | (simp only [not_true_eq_false, not_false_eq_true, false_and, and_false, true_and, and_true, or_true, true_or, or_false, false_or, if_true, if_false, Bool.false_eq_true, Bool.true_eq_false, reduceCtorEq, and_self, or_self, ← hx5, ← hx4, ← hr_3, ← hr_4, ← hr_14, ← hr_15, ← ex_21, c_2, c_6, c_7, c_9, c_16, c_19, n_6, n_16, d_6, m_6, d_9, d_16, m_16, hbn_19]; done) | (simp only [not_true_eq_false, not_false_eq_true, false_and, and_false, true_and, and_true, or_true, true_or, or_false, false_or, if_true, if_false, Bool.false_eq_true, Bool.true_eq_false, reduceCtorEq, and_self, or_self, ← hx5, ← hx4, ← hr_3, ← hr_4, ← hr_14, ← hr_15, ← ex_21, c_2, c_6, c_7, c_9, c_16, c_19, n_6, n_16, d_6, m_6, d_9, d_16, m_16, hbn_19]; simp only [hr_3, hr_4, hr_14, hr_15, ex_21]; done) | (simp [← hx5, ← hx4, ← hr_3, ← hr_4, ← hr_14, ← hr_15, ← ex_21, c_2, c_6, c_7, c_9, c_16, c_19, n_6, n_16, d_6, m_6, d_9, d_16, m_16, hbn_19]; done)) hP hD hS (lv_sub hl [0, 1, 2, 3, 4, 5] rfl)
    exact lp_39_5 ((S9 + 1 - 0) + 1) 0 0 (-9) _ _ _ (by omega) (rfl : (0 : Int32) = nI 0) (by omega) rfl hP hD hS (lv_sub hl [0, 1, 2, 3, 4, 5] rfl)
  have hb_2 : womB p0 = false := bool_f hr_1 c_2
  refine lv_aload_n hx hb dX4_more_7 rfl (lv_at hl 0 rfl) ?_
  refine lv_iconst (v := (-1)) hx hb dX4_more_8 (by decide) ?_
  refine xw_Vi (As := [.int (-1)]) (rest := []) (Wn := fun u => [(a0, .inr (3, [.ref a1, .ref a2, .ref a3, .ref a4, .int gg.hs, .ref a5, .ref a6, .ref a7, .int (nI gg.L), .int (nI gg.M), .int mm.pl, .ref a8, .int mm.sd])), (a1, .inl (cI, 49, .inl gg.r)), (a2, .inl (cI, 49, .inl mm.m)), (a3, .inl (cI, 49, .inl gg.im)), (a4, .inl (cI, 49, .inl mm.ws)), (a5, .inl (cI, 96, .inl gg.lt)), (a6, .inl (cI, 16, .inl gg.rw)), (a7, .inl (cI, 7, .inl (upd gg.rf (cN (-1)) (gg.rf (cN (-1)) + 1)))), (a8, .inl (cI, 3, .inl mm.nb))]) (Wr := [(a1, .inl (cI, 49, .inl gg.r)), (a2, .inl (cI, 49, .inl mm.m)), (a3, .inl (cI, 49, .inl gg.im)), (a4, .inl (cI, 49, .inl mm.ws)), (a5, .inl (cI, 96, .inl gg.lt)), (a6, .inl (cI, 16, .inl gg.rw)), (a8, .inl (cI, 3, .inl mm.nb))]) ⟨hx, hb, hml, hown, hts⟩ (kX4_no l D cI H.size a0 a1 a2 a3 a4 a5 a6 a7 a8 gg mm (-1) okc_1) (cwV 1 hts gX4_more_X4_no rfl rfl rfl hv_X4_no ⟨Nat.le_of_ble_eq_true rfl, Nat.le_of_ble_eq_true rfl⟩) hK hP hD hS hA [0, 7] [1, 2, 3, 4, 5, 6, 8] [7, 0, 1, 2, 3, 4, 5, 8, 6] rfl rfl (by decide) (by decide) (by decide) (by decide) (fun u => rfl) 0 rfl rfl rfl hl.1 rfl (Nat.le_of_ble_eq_true rfl) dX4_more_9 ⟨Nat.zero_le _, Nat.zero_le _⟩ (fun r_22 u_22 H locs hw_22 hP hD hS => ?_)
  exact hret 12 _ r_22 ((gg.n, gg.r, gg.m, gg.im, gg.hs, gg.lt, gg.L, gg.rw, gg.M, (upd gg.rf (cN (-1)) (gg.rf (cN (-1)) + 1))), mm) _ _ dX4_more_12 (by first | (simp [sp_more, rfz, us, c_2, hb_2, hw_22]; done) | (simp [sp_more, rfz, us, c_2, hb_2, hw_22, isI]; done) | (simp [sp_more, rfz, us, c_2, hb_2, hw_22, wrB, lackF]; done)) hP hD hS

set_option maxHeartbeats 4000000 in
set_option maxRecDepth 100000 in
theorem kX4_softest (l : Launch) (D : va_G) (cI : ClassId) (sz : Nat) (a0 a1 a2 a3 a4 a5 a6 a7 a8 : Nat) (gg : GG) (mm : MS) (hG : Good gg) (p0 p1 : Int32) : Met l yX4_softest wsX4_softest ({ frames := 5, cells := 0, slots := 0, locals := 110 }) (PRW D cI [.ref a0, .int p0, .int p1] [(a0, .inr (3, [.ref a1, .ref a2, .ref a3, .ref a4, .int gg.hs, .ref a5, .ref a6, .ref a7, .int (nI gg.L), .int (nI gg.M), .int mm.pl, .ref a8, .int mm.sd])), (a1, .inl (cI, 49, .inl gg.r)), (a2, .inl (cI, 49, .inl mm.m)), (a3, .inl (cI, 49, .inl gg.im)), (a4, .inl (cI, 49, .inl mm.ws)), (a5, .inl (cI, 96, .inl gg.lt)), (a6, .inl (cI, 16, .inl gg.rw)), (a7, .inl (cI, 7, .inl gg.rf)), (a8, .inl (cI, 3, .inl mm.nb))] sz) (va_Qi (S := GG × MS) (fun v u => (v, u.1) = sp_softest gg p0 p1) (BRW D [(a0, .inr (3, [.ref a1, .ref a2, .ref a3, .ref a4, .int gg.hs, .ref a5, .ref a6, .ref a7, .int (nI gg.L), .int (nI gg.M), .int mm.pl, .ref a8, .int mm.sd])), (a1, .inl (cI, 49, .inl gg.r)), (a2, .inl (cI, 49, .inl mm.m)), (a3, .inl (cI, 49, .inl gg.im)), (a4, .inl (cI, 49, .inl mm.ws)), (a5, .inl (cI, 96, .inl gg.lt)), (a6, .inl (cI, 16, .inl gg.rw)), (a7, .inl (cI, 7, .inl gg.rf)), (a8, .inl (cI, 3, .inl mm.nb))] sz (fun u => [(a0, .inr (3, [.ref a1, .ref a2, .ref a3, .ref a4, .int u.1.hs, .ref a5, .ref a6, .ref a7, .int (nI u.1.L), .int (nI u.1.M), .int u.2.pl, .ref a8, .int u.2.sd])), (a1, .inl (cI, 49, .inl u.1.r)), (a2, .inl (cI, 49, .inl u.2.m)), (a3, .inl (cI, 49, .inl u.1.im)), (a4, .inl (cI, 49, .inl u.2.ws)), (a5, .inl (cI, 96, .inl u.1.lt)), (a6, .inl (cI, 16, .inl u.1.rw)), (a7, .inl (cI, 7, .inl u.1.rf)), (a8, .inl (cI, 3, .inl u.2.nb))])) (va_A [(a0, .inr (3, [.ref a1, .ref a2, .ref a3, .ref a4, .int gg.hs, .ref a5, .ref a6, .ref a7, .int (nI gg.L), .int (nI gg.M), .int mm.pl, .ref a8, .int mm.sd])), (a1, .inl (cI, 49, .inl gg.r)), (a2, .inl (cI, 49, .inl mm.m)), (a3, .inl (cI, 49, .inl gg.im)), (a4, .inl (cI, 49, .inl mm.ws)), (a5, .inl (cI, 96, .inl gg.lt)), (a6, .inl (cI, 16, .inl gg.rw)), (a7, .inl (cI, 7, .inl gg.rf)), (a8, .inl (cI, 3, .inl mm.nb))] sz)) 0 0 (va_A [(a0, .inr (3, [.ref a1, .ref a2, .ref a3, .ref a4, .int gg.hs, .ref a5, .ref a6, .ref a7, .int (nI gg.L), .int (nI gg.M), .int mm.pl, .ref a8, .int mm.sd])), (a1, .inl (cI, 49, .inl gg.r)), (a2, .inl (cI, 49, .inl mm.m)), (a3, .inl (cI, 49, .inl gg.im)), (a4, .inl (cI, 49, .inl mm.ws)), (a5, .inl (cI, 96, .inl gg.lt)), (a6, .inl (cI, 16, .inl gg.rw)), (a7, .inl (cI, 7, .inl gg.rf)), (a8, .inl (cI, 3, .inl mm.nb))] sz) := by
  refine st_rwi (cc := cX4_softest) (maxL := 6) (rt := .int) (by decide) rfl (Nat.le_of_ble_eq_true rfl) (fun _ _ _ => rfl) ?_
  intro p e s m below meth c Q ls A hx hb hml hts hown hP hK hD hA hS hl hret
  replace hown : s.vm.findClass RX4 = some m.cls := hown
  replace hl : lv_has ls 6 [(0, .ref a0), (1, .int p0), (2, .int p1)] := hl
  obtain ⟨H, hH⟩ : ∃ z, z = s.heap := ⟨_, rfl⟩
  obtain ⟨locs, hlo⟩ : ∃ z : List Loc, z = [] := ⟨_, rfl⟩
  replace hP : va_P D vwCl [(a0, .inr (3, [.ref a1, .ref a2, .ref a3, .ref a4, .int gg.hs, .ref a5, .ref a6, .ref a7, .int (nI gg.L), .int (nI gg.M), .int mm.pl, .ref a8, .int mm.sd])), (a1, .inl (cI, 49, .inl gg.r)), (a2, .inl (cI, 49, .inl mm.m)), (a3, .inl (cI, 49, .inl gg.im)), (a4, .inl (cI, 49, .inl mm.ws)), (a5, .inl (cI, 96, .inl gg.lt)), (a6, .inl (cI, 16, .inl gg.rw)), (a7, .inl (cI, 7, .inl gg.rf)), (a8, .inl (cI, 3, .inl mm.nb))] H := by rw [hH]; exact hP
  replace hS : va_S A s.heap H locs := by rw [hH, hlo]; exact hS
  show W p l e ({ frames := 5, cells := 0, slots := 0, locals := 110 }) s m [.ref a0, .int p0, .int p1].toArray below meth c s.heap [] 0 0 Q (F0 m 0 ls [])
  rw [← hlo]
  suffices hgo : W p l e ({ frames := 5, cells := 0, slots := 0, locals := 110 }) s m [.ref a0, .int p0, .int p1].toArray below meth c H locs 0 0 Q (F0 m 0 ls []) by rw [hH] at hgo; exact hgo
  clear hH hlo
  have hi_X4 : ∀ w ∈ wsX40, w ∈ wsX4_softest := fun w h => List.mem_cons_of_mem _ (List.mem_append_right _ (h))
  have hk_9 := hts (.fieldLink RX4 9 "NestsOfTalkModel" "s" "[I") (List.mem_of_getElem? (i := 1) rfl)
  have hI := hG.inv
  have hn9 := hI.le
  have hL96 := hG.L96
  have hM16 := hG.M16
  refine lv_iload_n hx hb dX4_softest_0 rfl (lv_at hl 1 rfl) ?_
  refine xc_Si (As := [.int p0]) (rest := []) ⟨hx, hb, hml, hown, hts⟩ (kX4_isWoman l D cI p0) (va_cwS 1 hts gX4_softest_X4_isWoman rfl rfl rfl hs_X4_isWoman ⟨Nat.le_of_ble_eq_true rfl, Nat.le_of_ble_eq_true rfl⟩) hK hP [] rfl rfl hl.1 rfl (Nat.le_of_ble_eq_true rfl) dX4_softest_1 ⟨Nat.zero_le _, Nat.zero_le _⟩ (fun r_1 hr_1 => ?_)
  refine lv_if_ne (tgt := 13) hx hb dX4_softest_4 (by decide) (fun c_2 => ?_) (fun c_2 => ?_)
  · skip
    have hb_2 : womB p0 = true := bool_t hr_1 c_2
    obtain ⟨w_2, hw_2, ew_2⟩ := womB_iff.1 hb_2
    refine lv_iload_n hx hb dX4_softest_13 rfl (lv_at hl 2 rfl) ?_
    refine lv_iconst (v := 0) hx hb dX4_softest_14 (by decide) ?_
    refine lv_iconst (v := 1) hx hb dX4_softest_15 (by decide) ?_
    refine xc_Si (As := [.int p1, .int 0, .int 1]) (rest := []) ⟨hx, hb, hml, hown, hts⟩ (kX4_isIn l D cI p1 0 1) (va_cwS 3 hts gX4_softest_X4_isIn rfl rfl rfl hs_X4_isIn ⟨Nat.le_of_ble_eq_true rfl, Nat.le_of_ble_eq_true rfl⟩) hK hP [] rfl rfl hl.1 rfl (Nat.le_of_ble_eq_true rfl) dX4_softest_16 ⟨Nat.zero_le _, Nat.zero_le _⟩ (fun r_3 hr_3 => ?_)
    refine lv_if_ne (tgt := 29) hx hb dX4_softest_19 (by decide) (fun c_4 => ?_) (fun c_4 => ?_)
    · skip
      have hb_4 : isI p1 0 1 = true := bool_t (hr_3.trans isI_ite) c_4
      obtain ⟨i_4, il_4, iu_4, ei_4⟩ := isI_nat (a := 0) (b := 1) (rfl : (0 : Int32) = nI 0) (rfl : (1 : Int32) = nI 1) (by decide) (by omega) hb_4
      have tn_4 : tN p1 = i_4 := by rw [ei_4]; exact tN_nI (by omega)
      refine lv_aload_n hx hb dX4_softest_29 rfl (lv_at hl 0 rfl) ?_
      refine va_get (D := D) (ci := 3) (v := .ref a1) (C := RX4) (T := TX4) (N := 13) hx hb hts hi_X4 hown hK.1 hP 0 rfl rfl 0 (by decide) hk_9 (fun _ h9 => h9) rfl dX4_softest_30 ?_
      refine lv_iload_n hx hb dX4_softest_33 rfl (lv_at hl 1 rfl) ?_
      refine xc_Si (As := [.ref a1, .int p0]) (rest := []) ⟨hx, hb, hml, hown, hts⟩ (kX4_nestIn l D cI a1 gg.r gg.n hI p0) (va_cwS 2 hts gX4_softest_X4_nestIn rfl rfl rfl hs_X4_nestIn ⟨Nat.le_of_ble_eq_true rfl, Nat.le_of_ble_eq_true rfl⟩) hK hP [1] rfl rfl hl.1 rfl (Nat.le_of_ble_eq_true rfl) dX4_softest_34 ⟨Nat.zero_le _, Nat.zero_le _⟩ (fun r_5 hr_5 => ?_)
      refine lv_aload_n hx hb dX4_softest_37 rfl (lv_at hl 0 rfl) ?_
      refine va_get (D := D) (ci := 3) (v := .ref a1) (C := RX4) (T := TX4) (N := 13) hx hb hts hi_X4 hown hK.1 hP 0 rfl rfl 0 (by decide) hk_9 (fun _ h9 => h9) rfl dX4_softest_38 ?_
      refine lv_iload_n hx hb dX4_softest_41 rfl (lv_at hl 1 rfl) ?_
      refine lv_iconst (v := 0) hx hb dX4_softest_42 (by decide) ?_
      refine xc_Si (As := [.ref a1, .int p0, .int 0]) (rest := [.int r_5]) ⟨hx, hb, hml, hown, hts⟩ (kX4_ofHer l D cI a1 gg.r gg.n hI p0 0) (va_cwS 3 hts gX4_softest_X4_ofHer rfl rfl rfl hs_X4_ofHer ⟨Nat.le_of_ble_eq_true rfl, Nat.le_of_ble_eq_true rfl⟩) hK hP [1] rfl rfl hl.1 rfl (Nat.le_of_ble_eq_true rfl) dX4_softest_43 ⟨Nat.zero_le _, Nat.zero_le _⟩ (fun r_6 hr_6 => ?_)
      replace hr_6 : r_6 = sad gg.r gg.n p0 := hr_6
      refine lv_ior hx hb dX4_softest_46 ?_
      refine lv_topi (fun x_7 ex_7 => ?_)
      obtain ⟨S9, hS9, eS9⟩ := all_nat hn9 p0 (r := gg.r)
      have es9 : x_7 = nst gg.r gg.n p0 ||| sad gg.r gg.n p0 := by first | (simp only [hr_5, hr_6, ex_7]; done) | (simp only [hr_5, hr_6, ex_7]; rfl)
      have eS8 : x_7 = nI S9 := es9.trans eS9
      have tS9 : tN (nst gg.r gg.n p0 ||| sad gg.r gg.n p0) = S9 := by rw [eS9]; exact tN_nI (by omega)
      refine lv_istore_n (lv' := [(3, .int x_7), (0, .ref a0), (1, .int p0), (2, .int p1)]) hx hb dX4_softest_47 rfl hl (by decide) rfl (fun ls hl => ?_)
      refine lv_iconst (v := 0) hx hb dX4_softest_48 (by decide) ?_
      refine lv_istore (lv' := [(4, .int 0), (3, .int x_7), (0, .ref a0), (1, .int p0), (2, .int p1)]) hx hb dX4_softest_49 hl (by decide) rfl (fun ls hl => ?_)
      refine lv_iconst (v := 0) hx hb dX4_softest_51 (by decide) ?_
      refine lv_istore (lv' := [(5, .int 0), (4, .int 0), (3, .int x_7), (0, .ref a0), (1, .int p0), (2, .int p1)]) hx hb dX4_softest_52 hl (by decide) rfl (fun ls hl => ?_)
      have lp_54_8 : ∀ (fu : Nat) (j : Nat) (x5 : Int32) (x4 : Int32) (ls : Array Slot) (H : Heap) (locs : List Loc), S9 + 1 - j < fu → (x5 = nI j) → (j ≤ S9 + 1) → (x4 = soF gg.r gg.n x_7 j) → va_P D vwCl [(a0, .inr (3, [.ref a1, .ref a2, .ref a3, .ref a4, .int gg.hs, .ref a5, .ref a6, .ref a7, .int (nI gg.L), .int (nI gg.M), .int mm.pl, .ref a8, .int mm.sd])), (a1, .inl (cI, 49, .inl gg.r)), (a2, .inl (cI, 49, .inl mm.m)), (a3, .inl (cI, 49, .inl gg.im)), (a4, .inl (cI, 49, .inl mm.ws)), (a5, .inl (cI, 96, .inl gg.lt)), (a6, .inl (cI, 16, .inl gg.rw)), (a7, .inl (cI, 7, .inl gg.rf)), (a8, .inl (cI, 3, .inl mm.nb))] H → va_D A [(a0, .inr (3, [.ref a1, .ref a2, .ref a3, .ref a4, .int gg.hs, .ref a5, .ref a6, .ref a7, .int (nI gg.L), .int (nI gg.M), .int mm.pl, .ref a8, .int mm.sd])), (a1, .inl (cI, 49, .inl gg.r)), (a2, .inl (cI, 49, .inl mm.m)), (a3, .inl (cI, 49, .inl gg.im)), (a4, .inl (cI, 49, .inl mm.ws)), (a5, .inl (cI, 96, .inl gg.lt)), (a6, .inl (cI, 16, .inl gg.rw)), (a7, .inl (cI, 7, .inl gg.rf)), (a8, .inl (cI, 3, .inl mm.nb))] → va_S A s.heap H locs → lv_has ls 6 [(5, .int x5), (4, .int x4), (3, .int x_7), (0, .ref a0), (1, .int p0), (2, .int p1)] → W p l e ({ frames := 5, cells := 0, slots := 0, locals := 110 }) s m [.ref a0, .int p0, .int p1].toArray below meth c H locs 0 0 Q (F0 m 54 ls []) := by
        intro fu
        induction fu with
        | zero =>
          intro j x5 x4 ls H locs hfu
          exact absurd hfu (Nat.not_lt_zero _)
        | succ fu ih_8 =>
          intro j x5 x4 ls H locs hfu hx5 hi hx4 hP hD hS hl
          refine lv_iload hx hb dX4_softest_54 (lv_at hl 0 rfl) ?_
          refine lv_iload_n hx hb dX4_softest_56 rfl (lv_at hl 2 rfl) ?_
          refine lv_icmp_gt (tgt := 114) hx hb dX4_softest_57 (by decide) (fun c_9 => ?_) (fun c_9 => ?_)
          · skip
            have n_9 : S9 < j := (ni_lt (a := S9) (b := j) eS8 hx5 (by omega) (by omega)).mp c_9
            have d_9 : ¬ x5 ≤ x_7 := Int32.not_le.2 c_9
            have m_9 : ¬ j ≤ S9 := by omega
            refine lv_iload_n hx hb dX4_softest_114 rfl (lv_at hl 5 rfl) ?_
            refine lv_if_ne (tgt := 123) hx hb dX4_softest_115 (by decide) (fun c_10 => ?_) (fun c_10 => ?_)
            · skip
              have n_10 : ¬ i_4 = 0 := fun q => c_10 ((ni_eq (a := i_4) (b := 0) ei_4 (rfl : (0 : Int32) = nI 0) (by omega) (by decide)).mpr q)
              refine lv_aload_n hx hb dX4_softest_123 rfl (lv_at hl 3 rfl) ?_
              refine va_get (D := D) (ci := 3) (v := .ref a1) (C := RX4) (T := TX4) (N := 13) hx hb hts hi_X4 hown hK.1 hP 0 rfl rfl 0 (by decide) hk_9 (fun _ h9 => h9) rfl dX4_softest_124 ?_
              refine lv_iload hx hb dX4_softest_127 (lv_at hl 1 rfl) ?_
              refine lv_iconst (v := 1) hx hb dX4_softest_129 (by decide) ?_
              refine xc_Si (As := [.ref a1, .int x4, .int 1]) (rest := []) ⟨hx, hb, hml, hown, hts⟩ (kX4_sumOf l D cI a1 gg.r gg.n hI x4 1) (va_cwS 3 hts gX4_softest_X4_sumOf rfl rfl rfl hs_X4_sumOf ⟨Nat.le_of_ble_eq_true rfl, Nat.le_of_ble_eq_true rfl⟩) hK hP [1] rfl rfl hl.1 rfl (Nat.le_of_ble_eq_true rfl) dX4_softest_130 ⟨Nat.zero_le _, Nat.zero_le _⟩ (fun r_11 hr_11 => ?_)
              exact hret 133 _ r_11 (gg, mm) _ _ dX4_softest_133 (by have e9 : j = S9 + 1 := (by omega); subst e9; rw [es9] at hx4; first | (simp [sp_softest, soA, tS9, ← hx4, hb_2, hb_4, hr_11, c_10]; done) | (simp [sp_softest, soA, isI, tS9, ← hx4, hb_2, hb_4, hr_11, c_10]; done)) hP hD hS
            have n_10 : i_4 = 0 := (ni_eq (a := i_4) (b := 0) ei_4 (rfl : (0 : Int32) = nI 0) (by omega) (by decide)).mp c_10
            refine lv_iload hx hb dX4_softest_118 (lv_at hl 1 rfl) ?_
            refine lv_goto (tgt := 133) hx hb dX4_softest_120 (by decide) ?_
            exact hret 133 _ x4 (gg, mm) _ _ dX4_softest_133 (by have e9 : j = S9 + 1 := (by omega); subst e9; rw [es9] at hx4; first | (simp [sp_softest, soA, tS9, ← hx4, hb_2, hb_4, c_10]; done) | (simp [sp_softest, soA, isI, tS9, ← hx4, hb_2, hb_4, c_10]; done)) hP hD hS
          have n_9 : ¬ S9 < j := fun q => c_9 ((ni_lt (a := S9) (b := j) eS8 hx5 (by omega) (by omega)).mpr q)
          have d_9 : x5 ≤ x_7 := Int32.not_lt.1 c_9
          have m_9 : j ≤ S9 := by omega
          refine lv_iload hx hb dX4_softest_60 (lv_at hl 0 rfl) ?_
          refine lv_iload_n hx hb dX4_softest_62 rfl (lv_at hl 2 rfl) ?_
          refine lv_iconst (v := (-1)) hx hb dX4_softest_63 (by decide) ?_
          refine lv_ixor hx hb dX4_softest_64 ?_
          refine lv_iand hx hb dX4_softest_65 ?_
          refine lv_if_ne (tgt := 108) hx hb dX4_softest_66 (by decide) (fun c_12 => ?_) (fun c_12 => ?_)
          · skip
            obtain ⟨x_13, ex_13⟩ : ∃ z : Int32, z = x5 + 1 := ⟨_, rfl⟩
            refine lv_iinc (v := x_13) (lv' := [(5, .int x_13), (4, .int x4), (3, .int x_7), (0, .ref a0), (1, .int p0), (2, .int p1)]) hx hb dX4_softest_108 hl (k := 0) rfl (by rw [ex_13]; rfl) (by decide) rfl (fun ls hl => ?_)
            refine lv_goto (tgt := 54) hx hb dX4_softest_111 (by decide) ?_
            exact ih_8 (j + 1) x_13 x4 _ _ _ (by omega) (ni_add (a := j) (b := 1) ex_13 hx5 (rfl : (1 : Int32) = nI 1)) (by omega) (by rw [soF]; simp only [← hx5, ← hx4]; first | (simp only [not_true_eq_false, not_false_eq_true, false_and, and_false, true_and, and_true, or_true, true_or, or_false, false_or, if_true, if_false, Bool.false_eq_true, Bool.true_eq_false, reduceCtorEq, and_self, or_self, ← hx5, ← hx4, ← hr_5, ← hr_6, ← ex_7, ← ex_13, c_2, c_4, c_9, c_12, n_9, d_9, m_9]; done) | (simp only [not_true_eq_false, not_false_eq_true, false_and, and_false, true_and, and_true, or_true, true_or, or_false, false_or, if_true, if_false, Bool.false_eq_true, Bool.true_eq_false, reduceCtorEq, and_self, or_self, ← hx5, ← hx4, ← hr_5, ← hr_6, ← ex_7, ← ex_13, c_2, c_4, c_9, c_12, n_9, d_9, m_9]; simp only [hr_5, hr_6, ex_7, ex_13]; done) | (simp [← hx5, ← hx4, ← hr_5, ← hr_6, ← ex_7, ← ex_13, c_2, c_4, c_9, c_12, n_9, d_9, m_9]; done)) hP hD hS (lv_sub hl [0, 1, 2, 3, 4, 5] rfl)
          refine lv_aload_n hx hb dX4_softest_69 rfl (lv_at hl 3 rfl) ?_
          refine va_get (D := D) (ci := 3) (v := .ref a1) (C := RX4) (T := TX4) (N := 13) hx hb hts hi_X4 hown hK.1 hP 0 rfl rfl 0 (by decide) hk_9 (fun _ h9 => h9) rfl dX4_softest_70 ?_
          refine lv_iload hx hb dX4_softest_73 (lv_at hl 0 rfl) ?_
          refine lv_iconst (v := 1) hx hb dX4_softest_75 (by decide) ?_
          refine xc_Si (As := [.ref a1, .int x5, .int 1]) (rest := []) ⟨hx, hb, hml, hown, hts⟩ (kX4_sumOf l D cI a1 gg.r gg.n hI x5 1) (va_cwS 3 hts gX4_softest_X4_sumOf rfl rfl rfl hs_X4_sumOf ⟨Nat.le_of_ble_eq_true rfl, Nat.le_of_ble_eq_true rfl⟩) hK hP [1] rfl rfl hl.1 rfl (Nat.le_of_ble_eq_true rfl) dX4_softest_76 ⟨Nat.zero_le _, Nat.zero_le _⟩ (fun r_14 hr_14 => ?_)
          refine lv_aload_n hx hb dX4_softest_79 rfl (lv_at hl 3 rfl) ?_
          refine va_get (D := D) (ci := 3) (v := .ref a1) (C := RX4) (T := TX4) (N := 13) hx hb hts hi_X4 hown hK.1 hP 0 rfl rfl 0 (by decide) hk_9 (fun _ h9 => h9) rfl dX4_softest_80 ?_
          refine lv_iload hx hb dX4_softest_83 (lv_at hl 1 rfl) ?_
          refine lv_iconst (v := 1) hx hb dX4_softest_85 (by decide) ?_
          refine xc_Si (As := [.ref a1, .int x4, .int 1]) (rest := [.int r_14]) ⟨hx, hb, hml, hown, hts⟩ (kX4_sumOf l D cI a1 gg.r gg.n hI x4 1) (va_cwS 3 hts gX4_softest_X4_sumOf rfl rfl rfl hs_X4_sumOf ⟨Nat.le_of_ble_eq_true rfl, Nat.le_of_ble_eq_true rfl⟩) hK hP [1] rfl rfl hl.1 rfl (Nat.le_of_ble_eq_true rfl) dX4_softest_86 ⟨Nat.zero_le _, Nat.zero_le _⟩ (fun r_15 hr_15 => ?_)
          refine lv_icmp_le (tgt := 108) hx hb dX4_softest_89 (by decide) (fun c_16 => ?_) (fun c_16 => ?_)
          · skip
            have d_16 : ¬ r_15 < r_14 := Int32.not_lt.2 c_16
            obtain ⟨x_17, ex_17⟩ : ∃ z : Int32, z = x5 + 1 := ⟨_, rfl⟩
            refine lv_iinc (v := x_17) (lv' := [(5, .int x_17), (4, .int x4), (3, .int x_7), (0, .ref a0), (1, .int p0), (2, .int p1)]) hx hb dX4_softest_108 hl (k := 0) rfl (by rw [ex_17]; rfl) (by decide) rfl (fun ls hl => ?_)
            refine lv_goto (tgt := 54) hx hb dX4_softest_111 (by decide) ?_
            exact ih_8 (j + 1) x_17 x4 _ _ _ (by omega) (ni_add (a := j) (b := 1) ex_17 hx5 (rfl : (1 : Int32) = nI 1)) (by omega) (by rw [soF]; simp only [← hx5, ← hx4]; first | (simp only [not_true_eq_false, not_false_eq_true, false_and, and_false, true_and, and_true, or_true, true_or, or_false, false_or, if_true, if_false, Bool.false_eq_true, Bool.true_eq_false, reduceCtorEq, and_self, or_self, ← hx5, ← hx4, ← hr_5, ← hr_6, ← ex_7, ← hr_14, ← hr_15, ← ex_17, c_2, c_4, c_9, c_12, c_16, n_9, d_9, m_9, d_16]; done) | (simp only [not_true_eq_false, not_false_eq_true, false_and, and_false, true_and, and_true, or_true, true_or, or_false, false_or, if_true, if_false, Bool.false_eq_true, Bool.true_eq_false, reduceCtorEq, and_self, or_self, ← hx5, ← hx4, ← hr_5, ← hr_6, ← ex_7, ← hr_14, ← hr_15, ← ex_17, c_2, c_4, c_9, c_12, c_16, n_9, d_9, m_9, d_16]; simp only [hr_5, hr_6, ex_7, hr_14, hr_15, ex_17]; done) | (simp [← hx5, ← hx4, ← hr_5, ← hr_6, ← ex_7, ← hr_14, ← hr_15, ← ex_17, c_2, c_4, c_9, c_12, c_16, n_9, d_9, m_9, d_16]; done)) hP hD hS (lv_sub hl [0, 1, 2, 3, 4, 5] rfl)
          have d_16 : r_15 < r_14 := Int32.not_le.1 c_16
          refine lv_aload_n hx hb dX4_softest_92 rfl (lv_at hl 3 rfl) ?_
          refine va_get (D := D) (ci := 3) (v := .ref a1) (C := RX4) (T := TX4) (N := 13) hx hb hts hi_X4 hown hK.1 hP 0 rfl rfl 0 (by decide) hk_9 (fun _ h9 => h9) rfl dX4_softest_93 ?_
          refine lv_iload hx hb dX4_softest_96 (lv_at hl 0 rfl) ?_
          refine xc_Si (As := [.ref a1, .int x5]) (rest := []) ⟨hx, hb, hml, hown, hts⟩ (kX4_holdsSet l D cI a1 gg.r gg.n hI x5) (va_cwS 2 hts gX4_softest_X4_holdsSet rfl rfl rfl hs_X4_holdsSet ⟨Nat.le_of_ble_eq_true rfl, Nat.le_of_ble_eq_true rfl⟩) hK hP [1] rfl rfl hl.1 rfl (Nat.le_of_ble_eq_true rfl) dX4_softest_98 ⟨Nat.zero_le _, Nat.zero_le _⟩ (fun r_18 hr_18 => ?_)
          refine lv_if_eq (tgt := 108) hx hb dX4_softest_101 (by decide) (fun c_19 => ?_) (fun c_19 => ?_)
          · skip
            have hb_19 : hld gg.r gg.n x5 = false := bool_f hr_18 c_19
            have hbn_19 := hb_19
            obtain ⟨x_20, ex_20⟩ : ∃ z : Int32, z = x5 + 1 := ⟨_, rfl⟩
            refine lv_iinc (v := x_20) (lv' := [(5, .int x_20), (4, .int x4), (3, .int x_7), (0, .ref a0), (1, .int p0), (2, .int p1)]) hx hb dX4_softest_108 hl (k := 0) rfl (by rw [ex_20]; rfl) (by decide) rfl (fun ls hl => ?_)
            refine lv_goto (tgt := 54) hx hb dX4_softest_111 (by decide) ?_
            exact ih_8 (j + 1) x_20 x4 _ _ _ (by omega) (ni_add (a := j) (b := 1) ex_20 hx5 (rfl : (1 : Int32) = nI 1)) (by omega) (by rw [soF]; simp only [← hx5, ← hx4]; first | (simp only [not_true_eq_false, not_false_eq_true, false_and, and_false, true_and, and_true, or_true, true_or, or_false, false_or, if_true, if_false, Bool.false_eq_true, Bool.true_eq_false, reduceCtorEq, and_self, or_self, ← hx5, ← hx4, ← hr_5, ← hr_6, ← ex_7, ← hr_14, ← hr_15, ← ex_20, c_2, c_4, c_9, c_12, c_16, c_19, n_9, d_9, m_9, d_16, hbn_19]; done) | (simp only [not_true_eq_false, not_false_eq_true, false_and, and_false, true_and, and_true, or_true, true_or, or_false, false_or, if_true, if_false, Bool.false_eq_true, Bool.true_eq_false, reduceCtorEq, and_self, or_self, ← hx5, ← hx4, ← hr_5, ← hr_6, ← ex_7, ← hr_14, ← hr_15, ← ex_20, c_2, c_4, c_9, c_12, c_16, c_19, n_9, d_9, m_9, d_16, hbn_19]; simp only [hr_5, hr_6, ex_7, hr_14, hr_15, ex_20]; done) | (simp [← hx5, ← hx4, ← hr_5, ← hr_6, ← ex_7, ← hr_14, ← hr_15, ← ex_20, c_2, c_4, c_9, c_12, c_16, c_19, n_9, d_9, m_9, d_16, hbn_19]; done)) hP hD hS (lv_sub hl [0, 1, 2, 3, 4, 5] rfl)
          have hb_19 : hld gg.r gg.n x5 = true := bool_t hr_18 c_19
          have hbn_19 := hb_19
          refine lv_iload hx hb dX4_softest_104 (lv_at hl 0 rfl) ?_
          refine lv_istore (lv' := [(4, .int x5), (5, .int x5), (3, .int x_7), (0, .ref a0), (1, .int p0), (2, .int p1)]) hx hb dX4_softest_106 hl (by decide) rfl (fun ls hl => ?_)
          obtain ⟨x_21, ex_21⟩ : ∃ z : Int32, z = x5 + 1 := ⟨_, rfl⟩
          refine lv_iinc (v := x_21) (lv' := [(5, .int x_21), (4, .int x5), (3, .int x_7), (0, .ref a0), (1, .int p0), (2, .int p1)]) hx hb dX4_softest_108 hl (k := 1) rfl (by rw [ex_21]; rfl) (by decide) rfl (fun ls hl => ?_)
          refine lv_goto (tgt := 54) hx hb dX4_softest_111 (by decide) ?_
          exact ih_8 (j + 1) x_21 x5 _ _ _ (by omega) (ni_add (a := j) (b := 1) ex_21 hx5 (rfl : (1 : Int32) = nI 1)) (by omega) (by rw [soF]; simp only [← hx5, ← hx4]; first | (simp only [not_true_eq_false, not_false_eq_true, false_and, and_false, true_and, and_true, or_true, true_or, or_false, false_or, if_true, if_false, Bool.false_eq_true, Bool.true_eq_false, reduceCtorEq, and_self, or_self, ← hx5, ← hx4, ← hr_5, ← hr_6, ← ex_7, ← hr_14, ← hr_15, ← ex_21, c_2, c_4, c_9, c_12, c_16, c_19, n_9, d_9, m_9, d_16, hbn_19]; done) | (simp only [not_true_eq_false, not_false_eq_true, false_and, and_false, true_and, and_true, or_true, true_or, or_false, false_or, if_true, if_false, Bool.false_eq_true, Bool.true_eq_false, reduceCtorEq, and_self, or_self, ← hx5, ← hx4, ← hr_5, ← hr_6, ← ex_7, ← hr_14, ← hr_15, ← ex_21, c_2, c_4, c_9, c_12, c_16, c_19, n_9, d_9, m_9, d_16, hbn_19]; simp only [hr_5, hr_6, ex_7, hr_14, hr_15, ex_21]; done) | (simp [← hx5, ← hx4, ← hr_5, ← hr_6, ← ex_7, ← hr_14, ← hr_15, ← ex_21, c_2, c_4, c_9, c_12, c_16, c_19, n_9, d_9, m_9, d_16, hbn_19]; done)) hP hD hS (lv_sub hl [0, 1, 2, 3, 4, 5] rfl)
      exact lp_54_8 ((S9 + 1 - 0) + 1) 0 0 0 _ _ _ (by omega) (rfl : (0 : Int32) = nI 0) (by omega) rfl hP hD hS (lv_sub hl [0, 1, 2, 3, 4, 5] rfl)
    have hb_4 : isI p1 0 1 = false := bool_f (hr_3.trans isI_ite) c_4
    refine lv_aload_n hx hb dX4_softest_22 rfl (lv_at hl 0 rfl) ?_
    refine lv_bipush (v := (-2)) hx hb dX4_softest_23 (by decide) ?_
    refine xw_Vi (As := [.int (-2)]) (rest := []) (Wn := fun u => [(a0, .inr (3, [.ref a1, .ref a2, .ref a3, .ref a4, .int gg.hs, .ref a5, .ref a6, .ref a7, .int (nI gg.L), .int (nI gg.M), .int mm.pl, .ref a8, .int mm.sd])), (a1, .inl (cI, 49, .inl gg.r)), (a2, .inl (cI, 49, .inl mm.m)), (a3, .inl (cI, 49, .inl gg.im)), (a4, .inl (cI, 49, .inl mm.ws)), (a5, .inl (cI, 96, .inl gg.lt)), (a6, .inl (cI, 16, .inl gg.rw)), (a7, .inl (cI, 7, .inl (upd gg.rf (cN (-2)) (gg.rf (cN (-2)) + 1)))), (a8, .inl (cI, 3, .inl mm.nb))]) (Wr := [(a1, .inl (cI, 49, .inl gg.r)), (a2, .inl (cI, 49, .inl mm.m)), (a3, .inl (cI, 49, .inl gg.im)), (a4, .inl (cI, 49, .inl mm.ws)), (a5, .inl (cI, 96, .inl gg.lt)), (a6, .inl (cI, 16, .inl gg.rw)), (a8, .inl (cI, 3, .inl mm.nb))]) ⟨hx, hb, hml, hown, hts⟩ (kX4_no l D cI H.size a0 a1 a2 a3 a4 a5 a6 a7 a8 gg mm (-2) okc_2) (cwV 1 hts gX4_softest_X4_no rfl rfl rfl hv_X4_no ⟨Nat.le_of_ble_eq_true rfl, Nat.le_of_ble_eq_true rfl⟩) hK hP hD hS hA [0, 7] [1, 2, 3, 4, 5, 6, 8] [7, 0, 1, 2, 3, 4, 5, 8, 6] rfl rfl (by decide) (by decide) (by decide) (by decide) (fun u => rfl) 0 rfl rfl rfl hl.1 rfl (Nat.le_of_ble_eq_true rfl) dX4_softest_25 ⟨Nat.zero_le _, Nat.zero_le _⟩ (fun r_22 u_22 H locs hw_22 hP hD hS => ?_)
    exact hret 28 _ r_22 ((gg.n, gg.r, gg.m, gg.im, gg.hs, gg.lt, gg.L, gg.rw, gg.M, (upd gg.rf (cN (-2)) (gg.rf (cN (-2)) + 1))), mm) _ _ dX4_softest_28 (by first | (simp [sp_softest, rfz, us, c_2, c_4, hb_2, hb_4, hw_22]; done) | (simp [sp_softest, rfz, us, c_2, c_4, hb_2, hb_4, hw_22, isI]; done) | (simp [sp_softest, rfz, us, c_2, c_4, hb_2, hb_4, hw_22, wrB, lackF]; done)) hP hD hS
  have hb_2 : womB p0 = false := bool_f hr_1 c_2
  refine lv_aload_n hx hb dX4_softest_7 rfl (lv_at hl 0 rfl) ?_
  refine lv_iconst (v := (-1)) hx hb dX4_softest_8 (by decide) ?_
  refine xw_Vi (As := [.int (-1)]) (rest := []) (Wn := fun u => [(a0, .inr (3, [.ref a1, .ref a2, .ref a3, .ref a4, .int gg.hs, .ref a5, .ref a6, .ref a7, .int (nI gg.L), .int (nI gg.M), .int mm.pl, .ref a8, .int mm.sd])), (a1, .inl (cI, 49, .inl gg.r)), (a2, .inl (cI, 49, .inl mm.m)), (a3, .inl (cI, 49, .inl gg.im)), (a4, .inl (cI, 49, .inl mm.ws)), (a5, .inl (cI, 96, .inl gg.lt)), (a6, .inl (cI, 16, .inl gg.rw)), (a7, .inl (cI, 7, .inl (upd gg.rf (cN (-1)) (gg.rf (cN (-1)) + 1)))), (a8, .inl (cI, 3, .inl mm.nb))]) (Wr := [(a1, .inl (cI, 49, .inl gg.r)), (a2, .inl (cI, 49, .inl mm.m)), (a3, .inl (cI, 49, .inl gg.im)), (a4, .inl (cI, 49, .inl mm.ws)), (a5, .inl (cI, 96, .inl gg.lt)), (a6, .inl (cI, 16, .inl gg.rw)), (a8, .inl (cI, 3, .inl mm.nb))]) ⟨hx, hb, hml, hown, hts⟩ (kX4_no l D cI H.size a0 a1 a2 a3 a4 a5 a6 a7 a8 gg mm (-1) okc_1) (cwV 1 hts gX4_softest_X4_no rfl rfl rfl hv_X4_no ⟨Nat.le_of_ble_eq_true rfl, Nat.le_of_ble_eq_true rfl⟩) hK hP hD hS hA [0, 7] [1, 2, 3, 4, 5, 6, 8] [7, 0, 1, 2, 3, 4, 5, 8, 6] rfl rfl (by decide) (by decide) (by decide) (by decide) (fun u => rfl) 0 rfl rfl rfl hl.1 rfl (Nat.le_of_ble_eq_true rfl) dX4_softest_9 ⟨Nat.zero_le _, Nat.zero_le _⟩ (fun r_23 u_23 H locs hw_23 hP hD hS => ?_)
  exact hret 12 _ r_23 ((gg.n, gg.r, gg.m, gg.im, gg.hs, gg.lt, gg.L, gg.rw, gg.M, (upd gg.rf (cN (-1)) (gg.rf (cN (-1)) + 1))), mm) _ _ dX4_softest_12 (by first | (simp [sp_softest, rfz, us, c_2, hb_2, hw_23]; done) | (simp [sp_softest, rfz, us, c_2, hb_2, hw_23, isI]; done) | (simp [sp_softest, rfz, us, c_2, hb_2, hw_23, wrB, lackF]; done)) hP hD hS

set_option maxHeartbeats 4000000 in
set_option maxRecDepth 100000 in
theorem kX4_prop (l : Launch) (D : va_G) (cI : ClassId) (sz : Nat) (a0 a1 a2 a3 a4 a5 a6 a7 a8 : Nat) (gg : GG) (mm : MS) (hG : Good gg) (p0 : Int32) : Met l yX4_prop wsX4_prop ({ frames := 5, cells := 0, slots := 0, locals := 110 }) (PRW D cI [.ref a0, .int p0] [(a0, .inr (3, [.ref a1, .ref a2, .ref a3, .ref a4, .int gg.hs, .ref a5, .ref a6, .ref a7, .int (nI gg.L), .int (nI gg.M), .int mm.pl, .ref a8, .int mm.sd])), (a1, .inl (cI, 49, .inl gg.r)), (a2, .inl (cI, 49, .inl mm.m)), (a3, .inl (cI, 49, .inl gg.im)), (a4, .inl (cI, 49, .inl mm.ws)), (a5, .inl (cI, 96, .inl gg.lt)), (a6, .inl (cI, 16, .inl gg.rw)), (a7, .inl (cI, 7, .inl gg.rf)), (a8, .inl (cI, 3, .inl mm.nb))] sz) (va_Qi (S := GG × MS) (fun v u => (v, u.1) = sp_prop gg p0) (BRW D [(a0, .inr (3, [.ref a1, .ref a2, .ref a3, .ref a4, .int gg.hs, .ref a5, .ref a6, .ref a7, .int (nI gg.L), .int (nI gg.M), .int mm.pl, .ref a8, .int mm.sd])), (a1, .inl (cI, 49, .inl gg.r)), (a2, .inl (cI, 49, .inl mm.m)), (a3, .inl (cI, 49, .inl gg.im)), (a4, .inl (cI, 49, .inl mm.ws)), (a5, .inl (cI, 96, .inl gg.lt)), (a6, .inl (cI, 16, .inl gg.rw)), (a7, .inl (cI, 7, .inl gg.rf)), (a8, .inl (cI, 3, .inl mm.nb))] sz (fun u => [(a0, .inr (3, [.ref a1, .ref a2, .ref a3, .ref a4, .int u.1.hs, .ref a5, .ref a6, .ref a7, .int (nI u.1.L), .int (nI u.1.M), .int u.2.pl, .ref a8, .int u.2.sd])), (a1, .inl (cI, 49, .inl u.1.r)), (a2, .inl (cI, 49, .inl u.2.m)), (a3, .inl (cI, 49, .inl u.1.im)), (a4, .inl (cI, 49, .inl u.2.ws)), (a5, .inl (cI, 96, .inl u.1.lt)), (a6, .inl (cI, 16, .inl u.1.rw)), (a7, .inl (cI, 7, .inl u.1.rf)), (a8, .inl (cI, 3, .inl u.2.nb))])) (va_A [(a0, .inr (3, [.ref a1, .ref a2, .ref a3, .ref a4, .int gg.hs, .ref a5, .ref a6, .ref a7, .int (nI gg.L), .int (nI gg.M), .int mm.pl, .ref a8, .int mm.sd])), (a1, .inl (cI, 49, .inl gg.r)), (a2, .inl (cI, 49, .inl mm.m)), (a3, .inl (cI, 49, .inl gg.im)), (a4, .inl (cI, 49, .inl mm.ws)), (a5, .inl (cI, 96, .inl gg.lt)), (a6, .inl (cI, 16, .inl gg.rw)), (a7, .inl (cI, 7, .inl gg.rf)), (a8, .inl (cI, 3, .inl mm.nb))] sz)) 0 0 (va_A [(a0, .inr (3, [.ref a1, .ref a2, .ref a3, .ref a4, .int gg.hs, .ref a5, .ref a6, .ref a7, .int (nI gg.L), .int (nI gg.M), .int mm.pl, .ref a8, .int mm.sd])), (a1, .inl (cI, 49, .inl gg.r)), (a2, .inl (cI, 49, .inl mm.m)), (a3, .inl (cI, 49, .inl gg.im)), (a4, .inl (cI, 49, .inl mm.ws)), (a5, .inl (cI, 96, .inl gg.lt)), (a6, .inl (cI, 16, .inl gg.rw)), (a7, .inl (cI, 7, .inl gg.rf)), (a8, .inl (cI, 3, .inl mm.nb))] sz) := by
  refine st_rwi (cc := cX4_prop) (maxL := 5) (rt := .int) (by decide) rfl (Nat.le_of_ble_eq_true rfl) (fun _ _ _ => rfl) ?_
  intro p e s m below meth c Q ls A hx hb hml hts hown hP hK hD hA hS hl hret
  replace hown : s.vm.findClass RX4 = some m.cls := hown
  replace hl : lv_has ls 5 [(0, .ref a0), (1, .int p0)] := hl
  obtain ⟨H, hH⟩ : ∃ z, z = s.heap := ⟨_, rfl⟩
  obtain ⟨locs, hlo⟩ : ∃ z : List Loc, z = [] := ⟨_, rfl⟩
  replace hP : va_P D vwCl [(a0, .inr (3, [.ref a1, .ref a2, .ref a3, .ref a4, .int gg.hs, .ref a5, .ref a6, .ref a7, .int (nI gg.L), .int (nI gg.M), .int mm.pl, .ref a8, .int mm.sd])), (a1, .inl (cI, 49, .inl gg.r)), (a2, .inl (cI, 49, .inl mm.m)), (a3, .inl (cI, 49, .inl gg.im)), (a4, .inl (cI, 49, .inl mm.ws)), (a5, .inl (cI, 96, .inl gg.lt)), (a6, .inl (cI, 16, .inl gg.rw)), (a7, .inl (cI, 7, .inl gg.rf)), (a8, .inl (cI, 3, .inl mm.nb))] H := by rw [hH]; exact hP
  replace hS : va_S A s.heap H locs := by rw [hH, hlo]; exact hS
  show W p l e ({ frames := 5, cells := 0, slots := 0, locals := 110 }) s m [.ref a0, .int p0].toArray below meth c s.heap [] 0 0 Q (F0 m 0 ls [])
  rw [← hlo]
  suffices hgo : W p l e ({ frames := 5, cells := 0, slots := 0, locals := 110 }) s m [.ref a0, .int p0].toArray below meth c H locs 0 0 Q (F0 m 0 ls []) by rw [hH] at hgo; exact hgo
  clear hH hlo
  have hi_X4 : ∀ w ∈ wsX40, w ∈ wsX4_prop := fun w h => List.mem_cons_of_mem _ (List.mem_append_right _ (h))
  have hk_9 := hts (.fieldLink RX4 9 "NestsOfTalkModel" "s" "[I") (List.mem_of_getElem? (i := 1) rfl)
  have hI := hG.inv
  have hn9 := hI.le
  have hL96 := hG.L96
  have hM16 := hG.M16
  refine lv_iload_n hx hb dX4_prop_0 rfl (lv_at hl 1 rfl) ?_
  refine xc_Si (As := [.int p0]) (rest := []) ⟨hx, hb, hml, hown, hts⟩ (kX4_isWoman l D cI p0) (va_cwS 1 hts gX4_prop_X4_isWoman rfl rfl rfl hs_X4_isWoman ⟨Nat.le_of_ble_eq_true rfl, Nat.le_of_ble_eq_true rfl⟩) hK hP [] rfl rfl hl.1 rfl (Nat.le_of_ble_eq_true rfl) dX4_prop_1 ⟨Nat.zero_le _, Nat.zero_le _⟩ (fun r_1 hr_1 => ?_)
  refine lv_if_ne (tgt := 13) hx hb dX4_prop_4 (by decide) (fun c_2 => ?_) (fun c_2 => ?_)
  · skip
    have hb_2 : womB p0 = true := bool_t hr_1 c_2
    obtain ⟨w_2, hw_2, ew_2⟩ := womB_iff.1 hb_2
    refine lv_aload_n hx hb dX4_prop_13 rfl (lv_at hl 0 rfl) ?_
    refine va_get (D := D) (ci := 3) (v := .ref a1) (C := RX4) (T := TX4) (N := 13) hx hb hts hi_X4 hown hK.1 hP 0 rfl rfl 0 (by decide) hk_9 (fun _ h9 => h9) rfl dX4_prop_14 ?_
    refine lv_iload_n hx hb dX4_prop_17 rfl (lv_at hl 1 rfl) ?_
    refine xc_Si (As := [.ref a1, .int p0]) (rest := []) ⟨hx, hb, hml, hown, hts⟩ (kX4_nestIn l D cI a1 gg.r gg.n hI p0) (va_cwS 2 hts gX4_prop_X4_nestIn rfl rfl rfl hs_X4_nestIn ⟨Nat.le_of_ble_eq_true rfl, Nat.le_of_ble_eq_true rfl⟩) hK hP [1] rfl rfl hl.1 rfl (Nat.le_of_ble_eq_true rfl) dX4_prop_18 ⟨Nat.zero_le _, Nat.zero_le _⟩ (fun r_3 hr_3 => ?_)
    refine lv_istore_n (lv' := [(2, .int r_3), (0, .ref a0), (1, .int p0)]) hx hb dX4_prop_21 rfl hl (by decide) rfl (fun ls hl => ?_)
    refine lv_iconst (v := 0) hx hb dX4_prop_22 (by decide) ?_
    refine lv_istore_n (lv' := [(3, .int 0), (2, .int r_3), (0, .ref a0), (1, .int p0)]) hx hb dX4_prop_23 rfl hl (by decide) rfl (fun ls hl => ?_)
    refine lv_iconst (v := 0) hx hb dX4_prop_24 (by decide) ?_
    refine lv_istore (lv' := [(4, .int 0), (3, .int 0), (2, .int r_3), (0, .ref a0), (1, .int p0)]) hx hb dX4_prop_25 hl (by decide) rfl (fun ls hl => ?_)
    have lp_27_4 : ∀ (fu : Nat) (j : Nat) (x4 : Int32) (x3 : Int32) (ls : Array Slot) (H : Heap) (locs : List Loc), gg.n - j < fu → (x4 = nI j) → (j ≤ gg.n) → (x3 = prF gg.r gg.n r_3 j) → va_P D vwCl [(a0, .inr (3, [.ref a1, .ref a2, .ref a3, .ref a4, .int gg.hs, .ref a5, .ref a6, .ref a7, .int (nI gg.L), .int (nI gg.M), .int mm.pl, .ref a8, .int mm.sd])), (a1, .inl (cI, 49, .inl gg.r)), (a2, .inl (cI, 49, .inl mm.m)), (a3, .inl (cI, 49, .inl gg.im)), (a4, .inl (cI, 49, .inl mm.ws)), (a5, .inl (cI, 96, .inl gg.lt)), (a6, .inl (cI, 16, .inl gg.rw)), (a7, .inl (cI, 7, .inl gg.rf)), (a8, .inl (cI, 3, .inl mm.nb))] H → va_D A [(a0, .inr (3, [.ref a1, .ref a2, .ref a3, .ref a4, .int gg.hs, .ref a5, .ref a6, .ref a7, .int (nI gg.L), .int (nI gg.M), .int mm.pl, .ref a8, .int mm.sd])), (a1, .inl (cI, 49, .inl gg.r)), (a2, .inl (cI, 49, .inl mm.m)), (a3, .inl (cI, 49, .inl gg.im)), (a4, .inl (cI, 49, .inl mm.ws)), (a5, .inl (cI, 96, .inl gg.lt)), (a6, .inl (cI, 16, .inl gg.rw)), (a7, .inl (cI, 7, .inl gg.rf)), (a8, .inl (cI, 3, .inl mm.nb))] → va_S A s.heap H locs → lv_has ls 5 [(4, .int x4), (3, .int x3), (2, .int r_3), (0, .ref a0), (1, .int p0)] → W p l e ({ frames := 5, cells := 0, slots := 0, locals := 110 }) s m [.ref a0, .int p0].toArray below meth c H locs 0 0 Q (F0 m 27 ls []) := by
      intro fu
      induction fu with
      | zero =>
        intro j x4 x3 ls H locs hfu
        exact absurd hfu (Nat.not_lt_zero _)
      | succ fu ih_4 =>
        intro j x4 x3 ls H locs hfu hx4 hi hx3 hP hD hS hl
        refine lv_iload hx hb dX4_prop_27 (lv_at hl 0 rfl) ?_
        refine lv_aload_n hx hb dX4_prop_29 rfl (lv_at hl 3 rfl) ?_
        refine va_get (D := D) (ci := 3) (v := .ref a1) (C := RX4) (T := TX4) (N := 13) hx hb hts hi_X4 hown hK.1 hP 0 rfl rfl 0 (by decide) hk_9 (fun _ h9 => h9) rfl dX4_prop_30 ?_
        refine lv_iconst (v := 0) hx hb dX4_prop_33 (by decide) ?_
        refine xa_ld hx hb hK hP 1 rfl (j := 0) (rfl : (0 : Int32) = nI 0) (by omega) (by decide) dX4_prop_34 ?_
        refine lv_icmp_ge (tgt := 82) hx hb dX4_prop_35 (by decide) (fun c_5 => ?_) (fun c_5 => ?_)
        · skip
          have n_5 : gg.n ≤ j := (ni_le (a := gg.n) (b := j) hI.n0 hx4 (by omega) (by omega)).mp c_5
          have d_5 : ¬ x4 < (gg.r 0) := Int32.not_lt.2 c_5
          have m_5 : ¬ j < gg.n := by omega
          refine lv_iload_n hx hb dX4_prop_82 rfl (lv_at hl 1 rfl) ?_
          exact hret 83 _ x3 (gg, mm) _ _ dX4_prop_83 (by have e9 : j = gg.n := (by omega); subst e9; simp [sp_prop, hx3, hr_3, hb_2]) hP hD hS
        have n_5 : ¬ gg.n ≤ j := fun q => c_5 ((ni_le (a := gg.n) (b := j) hI.n0 hx4 (by omega) (by omega)).mpr q)
        have d_5 : x4 < (gg.r 0) := Int32.not_le.1 c_5
        have m_5 : j < gg.n := by omega
        refine lv_iload_n hx hb dX4_prop_38 rfl (lv_at hl 1 rfl) ?_
        refine lv_iload_n hx hb dX4_prop_39 rfl (lv_at hl 2 rfl) ?_
        refine lv_iload hx hb dX4_prop_40 (lv_at hl 0 rfl) ?_
        refine xc_Si (As := [.int r_3, .int x4]) (rest := [.int x3]) ⟨hx, hb, hml, hown, hts⟩ (kX4_has l D cI r_3 x4 j hx4 (by omega)) (va_cwS 2 hts gX4_prop_X4_has rfl rfl rfl hs_X4_has ⟨Nat.le_of_ble_eq_true rfl, Nat.le_of_ble_eq_true rfl⟩) hK hP [] rfl rfl hl.1 rfl (Nat.le_of_ble_eq_true rfl) dX4_prop_42 ⟨Nat.zero_le _, Nat.zero_le _⟩ (fun r_6 hr_6 => ?_)
        refine lv_if_eq (tgt := 73) hx hb dX4_prop_45 (by decide) (fun c_7 => ?_) (fun c_7 => ?_)
        · skip
          have hb_7 : bt r_3 j = false := bool_f hr_6 c_7
          have hbn_7 := hb_7
          try rw [hr_3] at hb_7
          refine lv_iconst (v := 0) hx hb dX4_prop_73 (by decide) ?_
          refine lv_ior hx hb dX4_prop_74 ?_
          refine lv_topi (fun x_8 ex_8 => ?_)
          refine lv_istore_n (lv' := [(3, .int x_8), (4, .int x4), (2, .int r_3), (0, .ref a0), (1, .int p0)]) hx hb dX4_prop_75 rfl hl (by decide) rfl (fun ls hl => ?_)
          obtain ⟨x_9, ex_9⟩ : ∃ z : Int32, z = x4 + 1 := ⟨_, rfl⟩
          refine lv_iinc (v := x_9) (lv' := [(4, .int x_9), (3, .int x_8), (2, .int r_3), (0, .ref a0), (1, .int p0)]) hx hb dX4_prop_76 hl (k := 1) rfl (by rw [ex_9]; rfl) (by decide) rfl (fun ls hl => ?_)
          refine lv_goto (tgt := 27) hx hb dX4_prop_79 (by decide) ?_
          exact ih_4 (j + 1) x_9 x_8 _ _ _ (by omega) (ni_add (a := j) (b := 1) ex_9 hx4 (rfl : (1 : Int32) = nI 1)) (by omega) (by rw [prF]; simp only [← hx4, ← hx3]; first | (simp only [not_true_eq_false, not_false_eq_true, false_and, and_false, true_and, and_true, or_true, true_or, or_false, false_or, if_true, if_false, Bool.false_eq_true, Bool.true_eq_false, reduceCtorEq, and_self, or_self, ← hx4, ← hx3, ← hr_3, ← ex_8, ← ex_9, c_2, c_5, c_7, n_5, d_5, m_5, hbn_7]; done) | (simp only [not_true_eq_false, not_false_eq_true, false_and, and_false, true_and, and_true, or_true, true_or, or_false, false_or, if_true, if_false, Bool.false_eq_true, Bool.true_eq_false, reduceCtorEq, and_self, or_self, ← hx4, ← hx3, ← hr_3, ← ex_8, ← ex_9, c_2, c_5, c_7, n_5, d_5, m_5, hbn_7]; simp only [hr_3, ex_8, ex_9]; done) | (simp [← hx4, ← hx3, ← hr_3, ← ex_8, ← ex_9, c_2, c_5, c_7, n_5, d_5, m_5, hbn_7]; done)) hP hD hS (lv_sub hl [0, 1, 2, 3, 4] rfl)
        have hb_7 : bt r_3 j = true := bool_t hr_6 c_7
        have hbn_7 := hb_7
        try rw [hr_3] at hb_7
        refine lv_aload_n hx hb dX4_prop_48 rfl (lv_at hl 3 rfl) ?_
        refine va_get (D := D) (ci := 3) (v := .ref a1) (C := RX4) (T := TX4) (N := 13) hx hb hts hi_X4 hown hK.1 hP 0 rfl rfl 0 (by decide) hk_9 (fun _ h9 => h9) rfl dX4_prop_49 ?_
        refine lv_iload_n hx hb dX4_prop_52 rfl (lv_at hl 2 rfl) ?_
        refine lv_iconst (v := 1) hx hb dX4_prop_53 (by decide) ?_
        refine lv_iload hx hb dX4_prop_54 (lv_at hl 0 rfl) ?_
        refine lv_ishl hx hb dX4_prop_56 ?_
        refine lv_iconst (v := (-1)) hx hb dX4_prop_57 (by decide) ?_
        refine lv_ixor hx hb dX4_prop_58 ?_
        refine lv_iand hx hb dX4_prop_59 ?_
        refine xc_Si (As := [.ref a1, .int (r_3 &&& ((1 <<< (x4 &&& 31)) ^^^ (-1)))]) (rest := [.int x3]) ⟨hx, hb, hml, hown, hts⟩ (kX4_holdsSet l D cI a1 gg.r gg.n hI (r_3 &&& ((1 <<< (x4 &&& 31)) ^^^ (-1)))) (va_cwS 2 hts gX4_prop_X4_holdsSet rfl rfl rfl hs_X4_holdsSet ⟨Nat.le_of_ble_eq_true rfl, Nat.le_of_ble_eq_true rfl⟩) hK hP [1] rfl rfl hl.1 rfl (Nat.le_of_ble_eq_true rfl) dX4_prop_60 ⟨Nat.zero_le _, Nat.zero_le _⟩ (fun r_10 hr_10 => ?_)
        refine lv_if_ne (tgt := 73) hx hb dX4_prop_63 (by decide) (fun c_11 => ?_) (fun c_11 => ?_)
        · skip
          have hb_11 : hld gg.r gg.n (r_3 &&& ((1 <<< (x4 &&& 31)) ^^^ (-1))) = true := bool_t hr_10 c_11
          have hbn_11 := hb_11
          try rw [hr_3] at hb_11
          refine lv_iconst (v := 0) hx hb dX4_prop_73 (by decide) ?_
          refine lv_ior hx hb dX4_prop_74 ?_
          refine lv_topi (fun x_12 ex_12 => ?_)
          refine lv_istore_n (lv' := [(3, .int x_12), (4, .int x4), (2, .int r_3), (0, .ref a0), (1, .int p0)]) hx hb dX4_prop_75 rfl hl (by decide) rfl (fun ls hl => ?_)
          obtain ⟨x_13, ex_13⟩ : ∃ z : Int32, z = x4 + 1 := ⟨_, rfl⟩
          refine lv_iinc (v := x_13) (lv' := [(4, .int x_13), (3, .int x_12), (2, .int r_3), (0, .ref a0), (1, .int p0)]) hx hb dX4_prop_76 hl (k := 1) rfl (by rw [ex_13]; rfl) (by decide) rfl (fun ls hl => ?_)
          refine lv_goto (tgt := 27) hx hb dX4_prop_79 (by decide) ?_
          exact ih_4 (j + 1) x_13 x_12 _ _ _ (by omega) (ni_add (a := j) (b := 1) ex_13 hx4 (rfl : (1 : Int32) = nI 1)) (by omega) (by rw [prF]; simp only [← hx4, ← hx3]; first | (simp only [not_true_eq_false, not_false_eq_true, false_and, and_false, true_and, and_true, or_true, true_or, or_false, false_or, if_true, if_false, Bool.false_eq_true, Bool.true_eq_false, reduceCtorEq, and_self, or_self, ← hx4, ← hx3, ← hr_3, ← ex_12, ← ex_13, c_2, c_5, c_7, c_11, n_5, d_5, m_5, hbn_7, hbn_11]; done) | (simp only [not_true_eq_false, not_false_eq_true, false_and, and_false, true_and, and_true, or_true, true_or, or_false, false_or, if_true, if_false, Bool.false_eq_true, Bool.true_eq_false, reduceCtorEq, and_self, or_self, ← hx4, ← hx3, ← hr_3, ← ex_12, ← ex_13, c_2, c_5, c_7, c_11, n_5, d_5, m_5, hbn_7, hbn_11]; simp only [hr_3, ex_12, ex_13]; done) | (simp [← hx4, ← hx3, ← hr_3, ← ex_12, ← ex_13, c_2, c_5, c_7, c_11, n_5, d_5, m_5, hbn_7, hbn_11]; done)) hP hD hS (lv_sub hl [0, 1, 2, 3, 4] rfl)
        have hb_11 : hld gg.r gg.n (r_3 &&& ((1 <<< (x4 &&& 31)) ^^^ (-1))) = false := bool_f hr_10 c_11
        have hbn_11 := hb_11
        try rw [hr_3] at hb_11
        refine lv_iconst (v := 1) hx hb dX4_prop_66 (by decide) ?_
        refine lv_iload hx hb dX4_prop_67 (lv_at hl 0 rfl) ?_
        refine lv_ishl hx hb dX4_prop_69 ?_
        refine lv_goto (tgt := 74) hx hb dX4_prop_70 (by decide) ?_
        refine lv_ior hx hb dX4_prop_74 ?_
        refine lv_topi (fun x_14 ex_14 => ?_)
        refine lv_istore_n (lv' := [(3, .int x_14), (4, .int x4), (2, .int r_3), (0, .ref a0), (1, .int p0)]) hx hb dX4_prop_75 rfl hl (by decide) rfl (fun ls hl => ?_)
        obtain ⟨x_15, ex_15⟩ : ∃ z : Int32, z = x4 + 1 := ⟨_, rfl⟩
        refine lv_iinc (v := x_15) (lv' := [(4, .int x_15), (3, .int x_14), (2, .int r_3), (0, .ref a0), (1, .int p0)]) hx hb dX4_prop_76 hl (k := 1) rfl (by rw [ex_15]; rfl) (by decide) rfl (fun ls hl => ?_)
        refine lv_goto (tgt := 27) hx hb dX4_prop_79 (by decide) ?_
        exact ih_4 (j + 1) x_15 x_14 _ _ _ (by omega) (ni_add (a := j) (b := 1) ex_15 hx4 (rfl : (1 : Int32) = nI 1)) (by omega) (by rw [prF]; simp only [← hx4, ← hx3]; first | (simp only [not_true_eq_false, not_false_eq_true, false_and, and_false, true_and, and_true, or_true, true_or, or_false, false_or, if_true, if_false, Bool.false_eq_true, Bool.true_eq_false, reduceCtorEq, and_self, or_self, ← hx4, ← hx3, ← hr_3, ← ex_14, ← ex_15, c_2, c_5, c_7, c_11, n_5, d_5, m_5, hbn_7, hbn_11]; done) | (simp only [not_true_eq_false, not_false_eq_true, false_and, and_false, true_and, and_true, or_true, true_or, or_false, false_or, if_true, if_false, Bool.false_eq_true, Bool.true_eq_false, reduceCtorEq, and_self, or_self, ← hx4, ← hx3, ← hr_3, ← ex_14, ← ex_15, c_2, c_5, c_7, c_11, n_5, d_5, m_5, hbn_7, hbn_11]; simp only [hr_3, ex_14, ex_15]; done) | (simp [← hx4, ← hx3, ← hr_3, ← ex_14, ← ex_15, c_2, c_5, c_7, c_11, n_5, d_5, m_5, hbn_7, hbn_11]; done)) hP hD hS (lv_sub hl [0, 1, 2, 3, 4] rfl)
    exact lp_27_4 ((gg.n - 0) + 1) 0 0 0 _ _ _ (by omega) (rfl : (0 : Int32) = nI 0) (by omega) rfl hP hD hS (lv_sub hl [0, 1, 2, 3, 4] rfl)
  have hb_2 : womB p0 = false := bool_f hr_1 c_2
  refine lv_aload_n hx hb dX4_prop_7 rfl (lv_at hl 0 rfl) ?_
  refine lv_iconst (v := (-1)) hx hb dX4_prop_8 (by decide) ?_
  refine xw_Vi (As := [.int (-1)]) (rest := []) (Wn := fun u => [(a0, .inr (3, [.ref a1, .ref a2, .ref a3, .ref a4, .int gg.hs, .ref a5, .ref a6, .ref a7, .int (nI gg.L), .int (nI gg.M), .int mm.pl, .ref a8, .int mm.sd])), (a1, .inl (cI, 49, .inl gg.r)), (a2, .inl (cI, 49, .inl mm.m)), (a3, .inl (cI, 49, .inl gg.im)), (a4, .inl (cI, 49, .inl mm.ws)), (a5, .inl (cI, 96, .inl gg.lt)), (a6, .inl (cI, 16, .inl gg.rw)), (a7, .inl (cI, 7, .inl (upd gg.rf (cN (-1)) (gg.rf (cN (-1)) + 1)))), (a8, .inl (cI, 3, .inl mm.nb))]) (Wr := [(a1, .inl (cI, 49, .inl gg.r)), (a2, .inl (cI, 49, .inl mm.m)), (a3, .inl (cI, 49, .inl gg.im)), (a4, .inl (cI, 49, .inl mm.ws)), (a5, .inl (cI, 96, .inl gg.lt)), (a6, .inl (cI, 16, .inl gg.rw)), (a8, .inl (cI, 3, .inl mm.nb))]) ⟨hx, hb, hml, hown, hts⟩ (kX4_no l D cI H.size a0 a1 a2 a3 a4 a5 a6 a7 a8 gg mm (-1) okc_1) (cwV 1 hts gX4_prop_X4_no rfl rfl rfl hv_X4_no ⟨Nat.le_of_ble_eq_true rfl, Nat.le_of_ble_eq_true rfl⟩) hK hP hD hS hA [0, 7] [1, 2, 3, 4, 5, 6, 8] [7, 0, 1, 2, 3, 4, 5, 8, 6] rfl rfl (by decide) (by decide) (by decide) (by decide) (fun u => rfl) 0 rfl rfl rfl hl.1 rfl (Nat.le_of_ble_eq_true rfl) dX4_prop_9 ⟨Nat.zero_le _, Nat.zero_le _⟩ (fun r_16 u_16 H locs hw_16 hP hD hS => ?_)
  exact hret 12 _ r_16 ((gg.n, gg.r, gg.m, gg.im, gg.hs, gg.lt, gg.L, gg.rw, gg.M, (upd gg.rf (cN (-1)) (gg.rf (cN (-1)) + 1))), mm) _ _ dX4_prop_12 (by first | (simp [sp_prop, rfz, us, c_2, hb_2, hw_16]; done) | (simp [sp_prop, rfz, us, c_2, hb_2, hw_16, isI]; done) | (simp [sp_prop, rfz, us, c_2, hb_2, hw_16, wrB, lackF]; done)) hP hD hS

set_option maxHeartbeats 4000000 in
set_option maxRecDepth 100000 in
theorem kX4_lighten (l : Launch) (D : va_G) (cI : ClassId) (sz : Nat) (a0 a1 a2 a3 a4 a5 a6 a7 a8 : Nat) (gg : GG) (mm : MS) (hG : Good gg) (p0 : Int32) : Met l yX4_lighten wsX4_lighten ({ frames := 5, cells := 0, slots := 0, locals := 110 }) (PRW D cI [.ref a0, .int p0] [(a0, .inr (3, [.ref a1, .ref a2, .ref a3, .ref a4, .int gg.hs, .ref a5, .ref a6, .ref a7, .int (nI gg.L), .int (nI gg.M), .int mm.pl, .ref a8, .int mm.sd])), (a1, .inl (cI, 49, .inl gg.r)), (a2, .inl (cI, 49, .inl mm.m)), (a3, .inl (cI, 49, .inl gg.im)), (a4, .inl (cI, 49, .inl mm.ws)), (a5, .inl (cI, 96, .inl gg.lt)), (a6, .inl (cI, 16, .inl gg.rw)), (a7, .inl (cI, 7, .inl gg.rf)), (a8, .inl (cI, 3, .inl mm.nb))] sz) (va_Qi (S := GG × MS) (fun v u => (v, u.1) = sp_lighten gg p0) (BRW D [(a0, .inr (3, [.ref a1, .ref a2, .ref a3, .ref a4, .int gg.hs, .ref a5, .ref a6, .ref a7, .int (nI gg.L), .int (nI gg.M), .int mm.pl, .ref a8, .int mm.sd])), (a1, .inl (cI, 49, .inl gg.r)), (a2, .inl (cI, 49, .inl mm.m)), (a3, .inl (cI, 49, .inl gg.im)), (a4, .inl (cI, 49, .inl mm.ws)), (a5, .inl (cI, 96, .inl gg.lt)), (a6, .inl (cI, 16, .inl gg.rw)), (a7, .inl (cI, 7, .inl gg.rf)), (a8, .inl (cI, 3, .inl mm.nb))] sz (fun u => [(a0, .inr (3, [.ref a1, .ref a2, .ref a3, .ref a4, .int u.1.hs, .ref a5, .ref a6, .ref a7, .int (nI u.1.L), .int (nI u.1.M), .int u.2.pl, .ref a8, .int u.2.sd])), (a1, .inl (cI, 49, .inl u.1.r)), (a2, .inl (cI, 49, .inl u.2.m)), (a3, .inl (cI, 49, .inl u.1.im)), (a4, .inl (cI, 49, .inl u.2.ws)), (a5, .inl (cI, 96, .inl u.1.lt)), (a6, .inl (cI, 16, .inl u.1.rw)), (a7, .inl (cI, 7, .inl u.1.rf)), (a8, .inl (cI, 3, .inl u.2.nb))])) (va_A [(a0, .inr (3, [.ref a1, .ref a2, .ref a3, .ref a4, .int gg.hs, .ref a5, .ref a6, .ref a7, .int (nI gg.L), .int (nI gg.M), .int mm.pl, .ref a8, .int mm.sd])), (a1, .inl (cI, 49, .inl gg.r)), (a2, .inl (cI, 49, .inl mm.m)), (a3, .inl (cI, 49, .inl gg.im)), (a4, .inl (cI, 49, .inl mm.ws)), (a5, .inl (cI, 96, .inl gg.lt)), (a6, .inl (cI, 16, .inl gg.rw)), (a7, .inl (cI, 7, .inl gg.rf)), (a8, .inl (cI, 3, .inl mm.nb))] sz)) 0 0 (va_A [(a0, .inr (3, [.ref a1, .ref a2, .ref a3, .ref a4, .int gg.hs, .ref a5, .ref a6, .ref a7, .int (nI gg.L), .int (nI gg.M), .int mm.pl, .ref a8, .int mm.sd])), (a1, .inl (cI, 49, .inl gg.r)), (a2, .inl (cI, 49, .inl mm.m)), (a3, .inl (cI, 49, .inl gg.im)), (a4, .inl (cI, 49, .inl mm.ws)), (a5, .inl (cI, 96, .inl gg.lt)), (a6, .inl (cI, 16, .inl gg.rw)), (a7, .inl (cI, 7, .inl gg.rf)), (a8, .inl (cI, 3, .inl mm.nb))] sz) := by
  refine st_rwi (cc := cX4_lighten) (maxL := 5) (rt := .int) (by decide) rfl (Nat.le_of_ble_eq_true rfl) (fun _ _ _ => rfl) ?_
  intro p e s m below meth c Q ls A hx hb hml hts hown hP hK hD hA hS hl hret
  replace hown : s.vm.findClass RX4 = some m.cls := hown
  replace hl : lv_has ls 5 [(0, .ref a0), (1, .int p0)] := hl
  obtain ⟨H, hH⟩ : ∃ z, z = s.heap := ⟨_, rfl⟩
  obtain ⟨locs, hlo⟩ : ∃ z : List Loc, z = [] := ⟨_, rfl⟩
  replace hP : va_P D vwCl [(a0, .inr (3, [.ref a1, .ref a2, .ref a3, .ref a4, .int gg.hs, .ref a5, .ref a6, .ref a7, .int (nI gg.L), .int (nI gg.M), .int mm.pl, .ref a8, .int mm.sd])), (a1, .inl (cI, 49, .inl gg.r)), (a2, .inl (cI, 49, .inl mm.m)), (a3, .inl (cI, 49, .inl gg.im)), (a4, .inl (cI, 49, .inl mm.ws)), (a5, .inl (cI, 96, .inl gg.lt)), (a6, .inl (cI, 16, .inl gg.rw)), (a7, .inl (cI, 7, .inl gg.rf)), (a8, .inl (cI, 3, .inl mm.nb))] H := by rw [hH]; exact hP
  replace hS : va_S A s.heap H locs := by rw [hH, hlo]; exact hS
  show W p l e ({ frames := 5, cells := 0, slots := 0, locals := 110 }) s m [.ref a0, .int p0].toArray below meth c s.heap [] 0 0 Q (F0 m 0 ls [])
  rw [← hlo]
  suffices hgo : W p l e ({ frames := 5, cells := 0, slots := 0, locals := 110 }) s m [.ref a0, .int p0].toArray below meth c H locs 0 0 Q (F0 m 0 ls []) by rw [hH] at hgo; exact hgo
  clear hH hlo
  have hi_X4 : ∀ w ∈ wsX40, w ∈ wsX4_lighten := fun w h => List.mem_cons_of_mem _ (List.mem_append_right _ (h))
  have hk_9 := hts (.fieldLink RX4 9 "NestsOfTalkModel" "s" "[I") (List.mem_of_getElem? (i := 1) rfl)
  have hI := hG.inv
  have hn9 := hI.le
  have hL96 := hG.L96
  have hM16 := hG.M16
  refine lv_iload_n hx hb dX4_lighten_0 rfl (lv_at hl 1 rfl) ?_
  refine xc_Si (As := [.int p0]) (rest := []) ⟨hx, hb, hml, hown, hts⟩ (kX4_isWoman l D cI p0) (va_cwS 1 hts gX4_lighten_X4_isWoman rfl rfl rfl hs_X4_isWoman ⟨Nat.le_of_ble_eq_true rfl, Nat.le_of_ble_eq_true rfl⟩) hK hP [] rfl rfl hl.1 rfl (Nat.le_of_ble_eq_true rfl) dX4_lighten_1 ⟨Nat.zero_le _, Nat.zero_le _⟩ (fun r_1 hr_1 => ?_)
  refine lv_if_ne (tgt := 13) hx hb dX4_lighten_4 (by decide) (fun c_2 => ?_) (fun c_2 => ?_)
  · skip
    have hb_2 : womB p0 = true := bool_t hr_1 c_2
    obtain ⟨w_2, hw_2, ew_2⟩ := womB_iff.1 hb_2
    refine lv_aload_n hx hb dX4_lighten_13 rfl (lv_at hl 0 rfl) ?_
    refine va_get (D := D) (ci := 3) (v := .ref a1) (C := RX4) (T := TX4) (N := 13) hx hb hts hi_X4 hown hK.1 hP 0 rfl rfl 0 (by decide) hk_9 (fun _ h9 => h9) rfl dX4_lighten_14 ?_
    refine lv_iload_n hx hb dX4_lighten_17 rfl (lv_at hl 1 rfl) ?_
    refine xc_Si (As := [.ref a1, .int p0]) (rest := []) ⟨hx, hb, hml, hown, hts⟩ (kX4_nestIn l D cI a1 gg.r gg.n hI p0) (va_cwS 2 hts gX4_lighten_X4_nestIn rfl rfl rfl hs_X4_nestIn ⟨Nat.le_of_ble_eq_true rfl, Nat.le_of_ble_eq_true rfl⟩) hK hP [1] rfl rfl hl.1 rfl (Nat.le_of_ble_eq_true rfl) dX4_lighten_18 ⟨Nat.zero_le _, Nat.zero_le _⟩ (fun r_3 hr_3 => ?_)
    obtain ⟨S9, hS9, eS9⟩ := nst_nat hn9 p0 (r := gg.r)
    have es9 : r_3 = nst gg.r gg.n p0 := by first | (simp only [hr_3]; done) | (simp only [hr_3]; rfl)
    have eS8 : r_3 = nI S9 := es9.trans eS9
    have tS9 : tN (nst gg.r gg.n p0) = S9 := by rw [eS9]; exact tN_nI (by omega)
    refine lv_istore_n (lv' := [(2, .int r_3), (0, .ref a0), (1, .int p0)]) hx hb dX4_lighten_21 rfl hl (by decide) rfl (fun ls hl => ?_)
    refine lv_iload_n hx hb dX4_lighten_22 rfl (lv_at hl 0 rfl) ?_
    refine lv_istore_n (lv' := [(3, .int r_3), (2, .int r_3), (0, .ref a0), (1, .int p0)]) hx hb dX4_lighten_23 rfl hl (by decide) rfl (fun ls hl => ?_)
    refine lv_iconst (v := 0) hx hb dX4_lighten_24 (by decide) ?_
    refine lv_istore (lv' := [(4, .int 0), (3, .int r_3), (2, .int r_3), (0, .ref a0), (1, .int p0)]) hx hb dX4_lighten_25 hl (by decide) rfl (fun ls hl => ?_)
    have lp_27_4 : ∀ (fu : Nat) (j : Nat) (x4 : Int32) (x3 : Int32) (ls : Array Slot) (H : Heap) (locs : List Loc), S9 + 1 - j < fu → (x4 = nI j) → (j ≤ S9 + 1) → (x3 = liF gg.r gg.n r_3 j) → va_P D vwCl [(a0, .inr (3, [.ref a1, .ref a2, .ref a3, .ref a4, .int gg.hs, .ref a5, .ref a6, .ref a7, .int (nI gg.L), .int (nI gg.M), .int mm.pl, .ref a8, .int mm.sd])), (a1, .inl (cI, 49, .inl gg.r)), (a2, .inl (cI, 49, .inl mm.m)), (a3, .inl (cI, 49, .inl gg.im)), (a4, .inl (cI, 49, .inl mm.ws)), (a5, .inl (cI, 96, .inl gg.lt)), (a6, .inl (cI, 16, .inl gg.rw)), (a7, .inl (cI, 7, .inl gg.rf)), (a8, .inl (cI, 3, .inl mm.nb))] H → va_D A [(a0, .inr (3, [.ref a1, .ref a2, .ref a3, .ref a4, .int gg.hs, .ref a5, .ref a6, .ref a7, .int (nI gg.L), .int (nI gg.M), .int mm.pl, .ref a8, .int mm.sd])), (a1, .inl (cI, 49, .inl gg.r)), (a2, .inl (cI, 49, .inl mm.m)), (a3, .inl (cI, 49, .inl gg.im)), (a4, .inl (cI, 49, .inl mm.ws)), (a5, .inl (cI, 96, .inl gg.lt)), (a6, .inl (cI, 16, .inl gg.rw)), (a7, .inl (cI, 7, .inl gg.rf)), (a8, .inl (cI, 3, .inl mm.nb))] → va_S A s.heap H locs → lv_has ls 5 [(4, .int x4), (3, .int x3), (2, .int r_3), (0, .ref a0), (1, .int p0)] → W p l e ({ frames := 5, cells := 0, slots := 0, locals := 110 }) s m [.ref a0, .int p0].toArray below meth c H locs 0 0 Q (F0 m 27 ls []) := by
      intro fu
      induction fu with
      | zero =>
        intro j x4 x3 ls H locs hfu
        exact absurd hfu (Nat.not_lt_zero _)
      | succ fu ih_4 =>
        intro j x4 x3 ls H locs hfu hx4 hi hx3 hP hD hS hl
        refine lv_iload hx hb dX4_lighten_27 (lv_at hl 0 rfl) ?_
        refine lv_iload_n hx hb dX4_lighten_29 rfl (lv_at hl 2 rfl) ?_
        refine lv_icmp_gt (tgt := 79) hx hb dX4_lighten_30 (by decide) (fun c_5 => ?_) (fun c_5 => ?_)
        · skip
          have n_5 : S9 < j := (ni_lt (a := S9) (b := j) eS8 hx4 (by omega) (by omega)).mp c_5
          have d_5 : ¬ x4 ≤ r_3 := Int32.not_le.2 c_5
          have m_5 : ¬ j ≤ S9 := by omega
          refine lv_iload_n hx hb dX4_lighten_79 rfl (lv_at hl 1 rfl) ?_
          exact hret 80 _ x3 (gg, mm) _ _ dX4_lighten_80 (by have e9 : j = S9 + 1 := (by omega); subst e9; simp [sp_lighten, tS9, hx3, es9, hr_3, hb_2]) hP hD hS
        have n_5 : ¬ S9 < j := fun q => c_5 ((ni_lt (a := S9) (b := j) eS8 hx4 (by omega) (by omega)).mpr q)
        have d_5 : x4 ≤ r_3 := Int32.not_lt.1 c_5
        have m_5 : j ≤ S9 := by omega
        refine lv_iload hx hb dX4_lighten_33 (lv_at hl 0 rfl) ?_
        refine lv_iload_n hx hb dX4_lighten_35 rfl (lv_at hl 2 rfl) ?_
        refine lv_iconst (v := (-1)) hx hb dX4_lighten_36 (by decide) ?_
        refine lv_ixor hx hb dX4_lighten_37 ?_
        refine lv_iand hx hb dX4_lighten_38 ?_
        refine lv_if_ne (tgt := 73) hx hb dX4_lighten_39 (by decide) (fun c_6 => ?_) (fun c_6 => ?_)
        · skip
          obtain ⟨x_7, ex_7⟩ : ∃ z : Int32, z = x4 + 1 := ⟨_, rfl⟩
          refine lv_iinc (v := x_7) (lv' := [(4, .int x_7), (3, .int x3), (2, .int r_3), (0, .ref a0), (1, .int p0)]) hx hb dX4_lighten_73 hl (k := 0) rfl (by rw [ex_7]; rfl) (by decide) rfl (fun ls hl => ?_)
          refine lv_goto (tgt := 27) hx hb dX4_lighten_76 (by decide) ?_
          exact ih_4 (j + 1) x_7 x3 _ _ _ (by omega) (ni_add (a := j) (b := 1) ex_7 hx4 (rfl : (1 : Int32) = nI 1)) (by omega) (by rw [liF]; simp only [← hx4, ← hx3]; first | (simp only [not_true_eq_false, not_false_eq_true, false_and, and_false, true_and, and_true, or_true, true_or, or_false, false_or, if_true, if_false, Bool.false_eq_true, Bool.true_eq_false, reduceCtorEq, and_self, or_self, ← hx4, ← hx3, ← hr_3, ← ex_7, c_2, c_5, c_6, n_5, d_5, m_5]; done) | (simp only [not_true_eq_false, not_false_eq_true, false_and, and_false, true_and, and_true, or_true, true_or, or_false, false_or, if_true, if_false, Bool.false_eq_true, Bool.true_eq_false, reduceCtorEq, and_self, or_self, ← hx4, ← hx3, ← hr_3, ← ex_7, c_2, c_5, c_6, n_5, d_5, m_5]; simp only [hr_3, ex_7]; done) | (simp [← hx4, ← hx3, ← hr_3, ← ex_7, c_2, c_5, c_6, n_5, d_5, m_5]; done)) hP hD hS (lv_sub hl [0, 1, 2, 3, 4] rfl)
        refine lv_iload hx hb dX4_lighten_42 (lv_at hl 0 rfl) ?_
        refine xc_Si (As := [.int x4]) (rest := []) ⟨hx, hb, hml, hown, hts⟩ (kX4_bits l D cI x4) (va_cwS 1 hts gX4_lighten_X4_bits rfl rfl rfl hs_X4_bits ⟨Nat.le_of_ble_eq_true rfl, Nat.le_of_ble_eq_true rfl⟩) hK hP [] rfl rfl hl.1 rfl (Nat.le_of_ble_eq_true rfl) dX4_lighten_44 ⟨Nat.zero_le _, Nat.zero_le _⟩ (fun r_8 hr_8 => ?_)
        have hcl_8 := cntN_le x4 10
        refine lv_iload_n hx hb dX4_lighten_47 rfl (lv_at hl 1 rfl) ?_
        refine xc_Si (As := [.int x3]) (rest := [.int r_8]) ⟨hx, hb, hml, hown, hts⟩ (kX4_bits l D cI x3) (va_cwS 1 hts gX4_lighten_X4_bits rfl rfl rfl hs_X4_bits ⟨Nat.le_of_ble_eq_true rfl, Nat.le_of_ble_eq_true rfl⟩) hK hP [] rfl rfl hl.1 rfl (Nat.le_of_ble_eq_true rfl) dX4_lighten_48 ⟨Nat.zero_le _, Nat.zero_le _⟩ (fun r_9 hr_9 => ?_)
        have hcl_9 := cntN_le x3 10
        refine lv_icmp_ge (tgt := 73) hx hb dX4_lighten_51 (by decide) (fun c_10 => ?_) (fun c_10 => ?_)
        · skip
          have n_10 : (cntN x3 10) ≤ (cntN x4 10) := (ni_le (a := (cntN x3 10)) (b := (cntN x4 10)) hr_9 hr_8 (by omega) (by omega)).mp c_10
          have d_10 : ¬ r_8 < r_9 := Int32.not_lt.2 c_10
          have m_10 : ¬ (cntN x4 10) < (cntN x3 10) := by omega
          obtain ⟨x_11, ex_11⟩ : ∃ z : Int32, z = x4 + 1 := ⟨_, rfl⟩
          refine lv_iinc (v := x_11) (lv' := [(4, .int x_11), (3, .int x3), (2, .int r_3), (0, .ref a0), (1, .int p0)]) hx hb dX4_lighten_73 hl (k := 0) rfl (by rw [ex_11]; rfl) (by decide) rfl (fun ls hl => ?_)
          refine lv_goto (tgt := 27) hx hb dX4_lighten_76 (by decide) ?_
          exact ih_4 (j + 1) x_11 x3 _ _ _ (by omega) (ni_add (a := j) (b := 1) ex_11 hx4 (rfl : (1 : Int32) = nI 1)) (by omega) (by rw [liF]; simp only [← hx4, ← hx3]; first | (simp only [not_true_eq_false, not_false_eq_true, false_and, and_false, true_and, and_true, or_true, true_or, or_false, false_or, if_true, if_false, Bool.false_eq_true, Bool.true_eq_false, reduceCtorEq, and_self, or_self, ← hx4, ← hx3, ← hr_3, ← hr_8, ← hr_9, ← ex_11, c_2, c_5, c_6, c_10, n_5, n_10, d_5, m_5, d_10, m_10]; done) | (simp only [not_true_eq_false, not_false_eq_true, false_and, and_false, true_and, and_true, or_true, true_or, or_false, false_or, if_true, if_false, Bool.false_eq_true, Bool.true_eq_false, reduceCtorEq, and_self, or_self, ← hx4, ← hx3, ← hr_3, ← hr_8, ← hr_9, ← ex_11, c_2, c_5, c_6, c_10, n_5, n_10, d_5, m_5, d_10, m_10]; simp only [hr_3, hr_8, hr_9, ex_11]; done) | (simp [← hx4, ← hx3, ← hr_3, ← hr_8, ← hr_9, ← ex_11, c_2, c_5, c_6, c_10, n_5, n_10, d_5, m_5, d_10, m_10]; done)) hP hD hS (lv_sub hl [0, 1, 2, 3, 4] rfl)
        have n_10 : ¬ (cntN x3 10) ≤ (cntN x4 10) := fun q => c_10 ((ni_le (a := (cntN x3 10)) (b := (cntN x4 10)) hr_9 hr_8 (by omega) (by omega)).mpr q)
        have d_10 : r_8 < r_9 := Int32.not_le.1 c_10
        have m_10 : (cntN x4 10) < (cntN x3 10) := by omega
        refine lv_aload_n hx hb dX4_lighten_54 rfl (lv_at hl 3 rfl) ?_
        refine va_get (D := D) (ci := 3) (v := .ref a1) (C := RX4) (T := TX4) (N := 13) hx hb hts hi_X4 hown hK.1 hP 0 rfl rfl 0 (by decide) hk_9 (fun _ h9 => h9) rfl dX4_lighten_55 ?_
        refine lv_iload_n hx hb dX4_lighten_58 rfl (lv_at hl 2 rfl) ?_
        refine lv_iload hx hb dX4_lighten_59 (lv_at hl 0 rfl) ?_
        refine lv_iconst (v := (-1)) hx hb dX4_lighten_61 (by decide) ?_
        refine lv_ixor hx hb dX4_lighten_62 ?_
        refine lv_iand hx hb dX4_lighten_63 ?_
        refine xc_Si (As := [.ref a1, .int (r_3 &&& (x4 ^^^ (-1)))]) (rest := []) ⟨hx, hb, hml, hown, hts⟩ (kX4_holdsSet l D cI a1 gg.r gg.n hI (r_3 &&& (x4 ^^^ (-1)))) (va_cwS 2 hts gX4_lighten_X4_holdsSet rfl rfl rfl hs_X4_holdsSet ⟨Nat.le_of_ble_eq_true rfl, Nat.le_of_ble_eq_true rfl⟩) hK hP [1] rfl rfl hl.1 rfl (Nat.le_of_ble_eq_true rfl) dX4_lighten_64 ⟨Nat.zero_le _, Nat.zero_le _⟩ (fun r_12 hr_12 => ?_)
        refine lv_if_eq (tgt := 73) hx hb dX4_lighten_67 (by decide) (fun c_13 => ?_) (fun c_13 => ?_)
        · skip
          have hb_13 : hld gg.r gg.n (r_3 &&& (x4 ^^^ (-1))) = false := bool_f hr_12 c_13
          have hbn_13 := hb_13
          try rw [hr_3] at hb_13
          obtain ⟨x_14, ex_14⟩ : ∃ z : Int32, z = x4 + 1 := ⟨_, rfl⟩
          refine lv_iinc (v := x_14) (lv' := [(4, .int x_14), (3, .int x3), (2, .int r_3), (0, .ref a0), (1, .int p0)]) hx hb dX4_lighten_73 hl (k := 0) rfl (by rw [ex_14]; rfl) (by decide) rfl (fun ls hl => ?_)
          refine lv_goto (tgt := 27) hx hb dX4_lighten_76 (by decide) ?_
          exact ih_4 (j + 1) x_14 x3 _ _ _ (by omega) (ni_add (a := j) (b := 1) ex_14 hx4 (rfl : (1 : Int32) = nI 1)) (by omega) (by rw [liF]; simp only [← hx4, ← hx3]; first | (simp only [not_true_eq_false, not_false_eq_true, false_and, and_false, true_and, and_true, or_true, true_or, or_false, false_or, if_true, if_false, Bool.false_eq_true, Bool.true_eq_false, reduceCtorEq, and_self, or_self, ← hx4, ← hx3, ← hr_3, ← hr_8, ← hr_9, ← ex_14, c_2, c_5, c_6, c_10, c_13, n_5, n_10, d_5, m_5, d_10, m_10, hbn_13]; done) | (simp only [not_true_eq_false, not_false_eq_true, false_and, and_false, true_and, and_true, or_true, true_or, or_false, false_or, if_true, if_false, Bool.false_eq_true, Bool.true_eq_false, reduceCtorEq, and_self, or_self, ← hx4, ← hx3, ← hr_3, ← hr_8, ← hr_9, ← ex_14, c_2, c_5, c_6, c_10, c_13, n_5, n_10, d_5, m_5, d_10, m_10, hbn_13]; simp only [hr_3, hr_8, hr_9, ex_14]; done) | (simp [← hx4, ← hx3, ← hr_3, ← hr_8, ← hr_9, ← ex_14, c_2, c_5, c_6, c_10, c_13, n_5, n_10, d_5, m_5, d_10, m_10, hbn_13]; done)) hP hD hS (lv_sub hl [0, 1, 2, 3, 4] rfl)
        have hb_13 : hld gg.r gg.n (r_3 &&& (x4 ^^^ (-1))) = true := bool_t hr_12 c_13
        have hbn_13 := hb_13
        try rw [hr_3] at hb_13
        refine lv_iload hx hb dX4_lighten_70 (lv_at hl 0 rfl) ?_
        refine lv_istore_n (lv' := [(3, .int x4), (4, .int x4), (2, .int r_3), (0, .ref a0), (1, .int p0)]) hx hb dX4_lighten_72 rfl hl (by decide) rfl (fun ls hl => ?_)
        obtain ⟨x_15, ex_15⟩ : ∃ z : Int32, z = x4 + 1 := ⟨_, rfl⟩
        refine lv_iinc (v := x_15) (lv' := [(4, .int x_15), (3, .int x4), (2, .int r_3), (0, .ref a0), (1, .int p0)]) hx hb dX4_lighten_73 hl (k := 1) rfl (by rw [ex_15]; rfl) (by decide) rfl (fun ls hl => ?_)
        refine lv_goto (tgt := 27) hx hb dX4_lighten_76 (by decide) ?_
        exact ih_4 (j + 1) x_15 x4 _ _ _ (by omega) (ni_add (a := j) (b := 1) ex_15 hx4 (rfl : (1 : Int32) = nI 1)) (by omega) (by rw [liF]; simp only [← hx4, ← hx3]; first | (simp only [not_true_eq_false, not_false_eq_true, false_and, and_false, true_and, and_true, or_true, true_or, or_false, false_or, if_true, if_false, Bool.false_eq_true, Bool.true_eq_false, reduceCtorEq, and_self, or_self, ← hx4, ← hx3, ← hr_3, ← hr_8, ← hr_9, ← ex_15, c_2, c_5, c_6, c_10, c_13, n_5, n_10, d_5, m_5, d_10, m_10, hbn_13]; done) | (simp only [not_true_eq_false, not_false_eq_true, false_and, and_false, true_and, and_true, or_true, true_or, or_false, false_or, if_true, if_false, Bool.false_eq_true, Bool.true_eq_false, reduceCtorEq, and_self, or_self, ← hx4, ← hx3, ← hr_3, ← hr_8, ← hr_9, ← ex_15, c_2, c_5, c_6, c_10, c_13, n_5, n_10, d_5, m_5, d_10, m_10, hbn_13]; simp only [hr_3, hr_8, hr_9, ex_15]; done) | (simp [← hx4, ← hx3, ← hr_3, ← hr_8, ← hr_9, ← ex_15, c_2, c_5, c_6, c_10, c_13, n_5, n_10, d_5, m_5, d_10, m_10, hbn_13]; done)) hP hD hS (lv_sub hl [0, 1, 2, 3, 4] rfl)
    exact lp_27_4 ((S9 + 1 - 0) + 1) 0 0 r_3 _ _ _ (by omega) (rfl : (0 : Int32) = nI 0) (by omega) rfl hP hD hS (lv_sub hl [0, 1, 2, 3, 4] rfl)
  have hb_2 : womB p0 = false := bool_f hr_1 c_2
  refine lv_aload_n hx hb dX4_lighten_7 rfl (lv_at hl 0 rfl) ?_
  refine lv_iconst (v := (-1)) hx hb dX4_lighten_8 (by decide) ?_
  refine xw_Vi (As := [.int (-1)]) (rest := []) (Wn := fun u => [(a0, .inr (3, [.ref a1, .ref a2, .ref a3, .ref a4, .int gg.hs, .ref a5, .ref a6, .ref a7, .int (nI gg.L), .int (nI gg.M), .int mm.pl, .ref a8, .int mm.sd])), (a1, .inl (cI, 49, .inl gg.r)), (a2, .inl (cI, 49, .inl mm.m)), (a3, .inl (cI, 49, .inl gg.im)), (a4, .inl (cI, 49, .inl mm.ws)), (a5, .inl (cI, 96, .inl gg.lt)), (a6, .inl (cI, 16, .inl gg.rw)), (a7, .inl (cI, 7, .inl (upd gg.rf (cN (-1)) (gg.rf (cN (-1)) + 1)))), (a8, .inl (cI, 3, .inl mm.nb))]) (Wr := [(a1, .inl (cI, 49, .inl gg.r)), (a2, .inl (cI, 49, .inl mm.m)), (a3, .inl (cI, 49, .inl gg.im)), (a4, .inl (cI, 49, .inl mm.ws)), (a5, .inl (cI, 96, .inl gg.lt)), (a6, .inl (cI, 16, .inl gg.rw)), (a8, .inl (cI, 3, .inl mm.nb))]) ⟨hx, hb, hml, hown, hts⟩ (kX4_no l D cI H.size a0 a1 a2 a3 a4 a5 a6 a7 a8 gg mm (-1) okc_1) (cwV 1 hts gX4_lighten_X4_no rfl rfl rfl hv_X4_no ⟨Nat.le_of_ble_eq_true rfl, Nat.le_of_ble_eq_true rfl⟩) hK hP hD hS hA [0, 7] [1, 2, 3, 4, 5, 6, 8] [7, 0, 1, 2, 3, 4, 5, 8, 6] rfl rfl (by decide) (by decide) (by decide) (by decide) (fun u => rfl) 0 rfl rfl rfl hl.1 rfl (Nat.le_of_ble_eq_true rfl) dX4_lighten_9 ⟨Nat.zero_le _, Nat.zero_le _⟩ (fun r_16 u_16 H locs hw_16 hP hD hS => ?_)
  exact hret 12 _ r_16 ((gg.n, gg.r, gg.m, gg.im, gg.hs, gg.lt, gg.L, gg.rw, gg.M, (upd gg.rf (cN (-1)) (gg.rf (cN (-1)) + 1))), mm) _ _ dX4_lighten_12 (by first | (simp [sp_lighten, rfz, us, c_2, hb_2, hw_16]; done) | (simp [sp_lighten, rfz, us, c_2, hb_2, hw_16, isI]; done) | (simp [sp_lighten, rfz, us, c_2, hb_2, hw_16, wrB, lackF]; done)) hP hD hS

set_option maxHeartbeats 4000000 in
set_option maxRecDepth 100000 in
theorem kX4_about (l : Launch) (D : va_G) (cI : ClassId) (sz : Nat) (a0 a1 a2 a3 a4 a5 a6 a7 a8 : Nat) (gg : GG) (mm : MS) (hG : Good gg) (p0 p1 : Int32) : Met l yX4_about wsX4_about ({ frames := 5, cells := 0, slots := 0, locals := 110 }) (PRW D cI [.ref a0, .int p0, .int p1] [(a0, .inr (3, [.ref a1, .ref a2, .ref a3, .ref a4, .int gg.hs, .ref a5, .ref a6, .ref a7, .int (nI gg.L), .int (nI gg.M), .int mm.pl, .ref a8, .int mm.sd])), (a1, .inl (cI, 49, .inl gg.r)), (a2, .inl (cI, 49, .inl mm.m)), (a3, .inl (cI, 49, .inl gg.im)), (a4, .inl (cI, 49, .inl mm.ws)), (a5, .inl (cI, 96, .inl gg.lt)), (a6, .inl (cI, 16, .inl gg.rw)), (a7, .inl (cI, 7, .inl gg.rf)), (a8, .inl (cI, 3, .inl mm.nb))] sz) (va_Qi (S := GG × MS) (fun v u => (v, u.1) = sp_about gg p0 p1) (BRW D [(a0, .inr (3, [.ref a1, .ref a2, .ref a3, .ref a4, .int gg.hs, .ref a5, .ref a6, .ref a7, .int (nI gg.L), .int (nI gg.M), .int mm.pl, .ref a8, .int mm.sd])), (a1, .inl (cI, 49, .inl gg.r)), (a2, .inl (cI, 49, .inl mm.m)), (a3, .inl (cI, 49, .inl gg.im)), (a4, .inl (cI, 49, .inl mm.ws)), (a5, .inl (cI, 96, .inl gg.lt)), (a6, .inl (cI, 16, .inl gg.rw)), (a7, .inl (cI, 7, .inl gg.rf)), (a8, .inl (cI, 3, .inl mm.nb))] sz (fun u => [(a0, .inr (3, [.ref a1, .ref a2, .ref a3, .ref a4, .int u.1.hs, .ref a5, .ref a6, .ref a7, .int (nI u.1.L), .int (nI u.1.M), .int u.2.pl, .ref a8, .int u.2.sd])), (a1, .inl (cI, 49, .inl u.1.r)), (a2, .inl (cI, 49, .inl u.2.m)), (a3, .inl (cI, 49, .inl u.1.im)), (a4, .inl (cI, 49, .inl u.2.ws)), (a5, .inl (cI, 96, .inl u.1.lt)), (a6, .inl (cI, 16, .inl u.1.rw)), (a7, .inl (cI, 7, .inl u.1.rf)), (a8, .inl (cI, 3, .inl u.2.nb))])) (va_A [(a0, .inr (3, [.ref a1, .ref a2, .ref a3, .ref a4, .int gg.hs, .ref a5, .ref a6, .ref a7, .int (nI gg.L), .int (nI gg.M), .int mm.pl, .ref a8, .int mm.sd])), (a1, .inl (cI, 49, .inl gg.r)), (a2, .inl (cI, 49, .inl mm.m)), (a3, .inl (cI, 49, .inl gg.im)), (a4, .inl (cI, 49, .inl mm.ws)), (a5, .inl (cI, 96, .inl gg.lt)), (a6, .inl (cI, 16, .inl gg.rw)), (a7, .inl (cI, 7, .inl gg.rf)), (a8, .inl (cI, 3, .inl mm.nb))] sz)) 0 0 (va_A [(a0, .inr (3, [.ref a1, .ref a2, .ref a3, .ref a4, .int gg.hs, .ref a5, .ref a6, .ref a7, .int (nI gg.L), .int (nI gg.M), .int mm.pl, .ref a8, .int mm.sd])), (a1, .inl (cI, 49, .inl gg.r)), (a2, .inl (cI, 49, .inl mm.m)), (a3, .inl (cI, 49, .inl gg.im)), (a4, .inl (cI, 49, .inl mm.ws)), (a5, .inl (cI, 96, .inl gg.lt)), (a6, .inl (cI, 16, .inl gg.rw)), (a7, .inl (cI, 7, .inl gg.rf)), (a8, .inl (cI, 3, .inl mm.nb))] sz) := by
  refine st_rwi (cc := cX4_about) (maxL := 7) (rt := .int) (by decide) rfl (Nat.le_of_ble_eq_true rfl) (fun _ _ _ => rfl) ?_
  intro p e s m below meth c Q ls A hx hb hml hts hown hP hK hD hA hS hl hret
  replace hown : s.vm.findClass RX4 = some m.cls := hown
  replace hl : lv_has ls 7 [(0, .ref a0), (1, .int p0), (2, .int p1)] := hl
  obtain ⟨H, hH⟩ : ∃ z, z = s.heap := ⟨_, rfl⟩
  obtain ⟨locs, hlo⟩ : ∃ z : List Loc, z = [] := ⟨_, rfl⟩
  replace hP : va_P D vwCl [(a0, .inr (3, [.ref a1, .ref a2, .ref a3, .ref a4, .int gg.hs, .ref a5, .ref a6, .ref a7, .int (nI gg.L), .int (nI gg.M), .int mm.pl, .ref a8, .int mm.sd])), (a1, .inl (cI, 49, .inl gg.r)), (a2, .inl (cI, 49, .inl mm.m)), (a3, .inl (cI, 49, .inl gg.im)), (a4, .inl (cI, 49, .inl mm.ws)), (a5, .inl (cI, 96, .inl gg.lt)), (a6, .inl (cI, 16, .inl gg.rw)), (a7, .inl (cI, 7, .inl gg.rf)), (a8, .inl (cI, 3, .inl mm.nb))] H := by rw [hH]; exact hP
  replace hS : va_S A s.heap H locs := by rw [hH, hlo]; exact hS
  show W p l e ({ frames := 5, cells := 0, slots := 0, locals := 110 }) s m [.ref a0, .int p0, .int p1].toArray below meth c s.heap [] 0 0 Q (F0 m 0 ls [])
  rw [← hlo]
  suffices hgo : W p l e ({ frames := 5, cells := 0, slots := 0, locals := 110 }) s m [.ref a0, .int p0, .int p1].toArray below meth c H locs 0 0 Q (F0 m 0 ls []) by rw [hH] at hgo; exact hgo
  clear hH hlo
  have hi_X4 : ∀ w ∈ wsX40, w ∈ wsX4_about := fun w h => List.mem_cons_of_mem _ (List.mem_append_right _ (h))
  have hk_9 := hts (.fieldLink RX4 9 "NestsOfTalkModel" "s" "[I") (List.mem_of_getElem? (i := 1) rfl)
  have hI := hG.inv
  have hn9 := hI.le
  have hL96 := hG.L96
  have hM16 := hG.M16
  refine lv_aload_n hx hb dX4_about_0 rfl (lv_at hl 0 rfl) ?_
  refine lv_iload_n hx hb dX4_about_1 rfl (lv_at hl 1 rfl) ?_
  refine xc_Vi (As := [.int p0]) (rest := []) ⟨hx, hb, hml, hown, hts⟩ (kX4_isSaying l D cI a0 a1 a2 a3 a4 a5 a6 a7 a8 gg mm gg.n hI p0) (cwV 1 hts gX4_about_X4_isSaying rfl rfl rfl hv_X4_isSaying ⟨Nat.le_of_ble_eq_true rfl, Nat.le_of_ble_eq_true rfl⟩) hK hP [0, 1] rfl 0 rfl rfl rfl hl.1 rfl (Nat.le_of_ble_eq_true rfl) dX4_about_2 ⟨Nat.zero_le _, Nat.zero_le _⟩ (fun r_1 hr_1 => ?_)
  refine lv_if_ne (tgt := 14) hx hb dX4_about_5 (by decide) (fun c_2 => ?_) (fun c_2 => ?_)
  · skip
    have hb_2 : sayB gg.n p0 = true := bool_t hr_1 c_2
    obtain ⟨t_2, ht_2, et_2⟩ := (sayB_iff (hI).le).1 hb_2
    have tn_2 : tN p0 = t_2 := by rw [et_2]; exact tN_nI (by omega)
    refine lv_iload_n hx hb dX4_about_14 rfl (lv_at hl 2 rfl) ?_
    refine lv_iconst (v := 0) hx hb dX4_about_15 (by decide) ?_
    refine lv_iconst (v := 1) hx hb dX4_about_16 (by decide) ?_
    refine xc_Si (As := [.int p1, .int 0, .int 1]) (rest := []) ⟨hx, hb, hml, hown, hts⟩ (kX4_isIn l D cI p1 0 1) (va_cwS 3 hts gX4_about_X4_isIn rfl rfl rfl hs_X4_isIn ⟨Nat.le_of_ble_eq_true rfl, Nat.le_of_ble_eq_true rfl⟩) hK hP [] rfl rfl hl.1 rfl (Nat.le_of_ble_eq_true rfl) dX4_about_17 ⟨Nat.zero_le _, Nat.zero_le _⟩ (fun r_3 hr_3 => ?_)
    refine lv_if_ne (tgt := 30) hx hb dX4_about_20 (by decide) (fun c_4 => ?_) (fun c_4 => ?_)
    · skip
      have hb_4 : isI p1 0 1 = true := bool_t (hr_3.trans isI_ite) c_4
      obtain ⟨i_4, il_4, iu_4, ei_4⟩ := isI_nat (a := 0) (b := 1) (rfl : (0 : Int32) = nI 0) (rfl : (1 : Int32) = nI 1) (by decide) (by omega) hb_4
      have tn_4 : tN p1 = i_4 := by rw [ei_4]; exact tN_nI (by omega)
      refine lv_bipush (v := (-9)) hx hb dX4_about_30 (by decide) ?_
      refine lv_istore_n (lv' := [(3, .int (-9)), (0, .ref a0), (1, .int p0), (2, .int p1)]) hx hb dX4_about_32 rfl hl (by decide) rfl (fun ls hl => ?_)
      refine lv_iconst (v := (-1)) hx hb dX4_about_33 (by decide) ?_
      refine lv_istore (lv' := [(4, .int (-1)), (3, .int (-9)), (0, .ref a0), (1, .int p0), (2, .int p1)]) hx hb dX4_about_34 hl (by decide) rfl (fun ls hl => ?_)
      refine lv_iconst (v := 0) hx hb dX4_about_36 (by decide) ?_
      refine lv_istore (lv' := [(5, .int 0), (4, .int (-1)), (3, .int (-9)), (0, .ref a0), (1, .int p0), (2, .int p1)]) hx hb dX4_about_37 hl (by decide) rfl (fun ls hl => ?_)
      have lp_39_5 : ∀ (fu : Nat) (j : Nat) (x5 : Int32) (x4 : Int32) (x3 : Int32) (ls : Array Slot) (H : Heap) (locs : List Loc), 4 - j < fu → (x5 = nI j) → (j ≤ 4) → (x3 = (abF gg.r gg.n p0 j).1) → (x4 = (abF gg.r gg.n p0 j).2) → va_P D vwCl [(a0, .inr (3, [.ref a1, .ref a2, .ref a3, .ref a4, .int gg.hs, .ref a5, .ref a6, .ref a7, .int (nI gg.L), .int (nI gg.M), .int mm.pl, .ref a8, .int mm.sd])), (a1, .inl (cI, 49, .inl gg.r)), (a2, .inl (cI, 49, .inl mm.m)), (a3, .inl (cI, 49, .inl gg.im)), (a4, .inl (cI, 49, .inl mm.ws)), (a5, .inl (cI, 96, .inl gg.lt)), (a6, .inl (cI, 16, .inl gg.rw)), (a7, .inl (cI, 7, .inl gg.rf)), (a8, .inl (cI, 3, .inl mm.nb))] H → va_D A [(a0, .inr (3, [.ref a1, .ref a2, .ref a3, .ref a4, .int gg.hs, .ref a5, .ref a6, .ref a7, .int (nI gg.L), .int (nI gg.M), .int mm.pl, .ref a8, .int mm.sd])), (a1, .inl (cI, 49, .inl gg.r)), (a2, .inl (cI, 49, .inl mm.m)), (a3, .inl (cI, 49, .inl gg.im)), (a4, .inl (cI, 49, .inl mm.ws)), (a5, .inl (cI, 96, .inl gg.lt)), (a6, .inl (cI, 16, .inl gg.rw)), (a7, .inl (cI, 7, .inl gg.rf)), (a8, .inl (cI, 3, .inl mm.nb))] → va_S A s.heap H locs → lv_has ls 7 [(5, .int x5), (4, .int x4), (3, .int x3), (0, .ref a0), (1, .int p0), (2, .int p1)] → W p l e ({ frames := 5, cells := 0, slots := 0, locals := 110 }) s m [.ref a0, .int p0, .int p1].toArray below meth c H locs 0 0 Q (F0 m 39 ls []) := by
        intro fu
        induction fu with
        | zero =>
          intro j x5 x4 x3 ls H locs hfu
          exact absurd hfu (Nat.not_lt_zero _)
        | succ fu ih_5 =>
          intro j x5 x4 x3 ls H locs hfu hx5 hi hx3 hx4 hP hD hS hl
          refine lv_iload hx hb dX4_about_39 (lv_at hl 0 rfl) ?_
          refine lv_iconst (v := 4) hx hb dX4_about_41 (by decide) ?_
          refine lv_icmp_ge (tgt := 111) hx hb dX4_about_42 (by decide) (fun c_6 => ?_) (fun c_6 => ?_)
          · skip
            have n_6 : 4 ≤ j := (ni_le (a := 4) (b := j) (rfl : (4 : Int32) = nI 4) hx5 (by decide) (by omega)).mp c_6
            have d_6 : ¬ x5 < 4 := Int32.not_lt.2 c_6
            have m_6 : ¬ j < 4 := by omega
            refine lv_iload_n hx hb dX4_about_111 rfl (lv_at hl 5 rfl) ?_
            refine lv_if_ne (tgt := 119) hx hb dX4_about_112 (by decide) (fun c_7 => ?_) (fun c_7 => ?_)
            · skip
              have n_7 : ¬ i_4 = 0 := fun q => c_7 ((ni_eq (a := i_4) (b := 0) ei_4 (rfl : (0 : Int32) = nI 0) (by omega) (by decide)).mpr q)
              refine lv_iload hx hb dX4_about_119 (lv_at hl 1 rfl) ?_
              refine lv_if_ge (tgt := 128) hx hb dX4_about_121 (by decide) (fun c_8 => ?_) (fun c_8 => ?_)
              · skip
                have d_8 : ¬ x4 < 0 := Int32.not_lt.2 c_8
                refine lv_iload hx hb dX4_about_128 (lv_at hl 1 rfl) ?_
                exact hret 130 _ x4 (gg, mm) _ _ dX4_about_130 (by have e9 : j = 4 := (by omega); subst e9; first | (simp [sp_about, ← hx3, ← hx4, hb_2, hb_4, d_6, m_6, d_8, c_7, c_8]; done) | (simp [sp_about, isI, ← hx3, ← hx4, hb_2, hb_4, d_6, m_6, d_8, c_7, c_8]; done)) hP hD hS
              have d_8 : x4 < 0 := Int32.not_le.1 c_8
              refine lv_iconst (v := 0) hx hb dX4_about_124 (by decide) ?_
              refine lv_goto (tgt := 130) hx hb dX4_about_125 (by decide) ?_
              exact hret 130 _ 0 (gg, mm) _ _ dX4_about_130 (by have e9 : j = 4 := (by omega); subst e9; first | (simp [sp_about, ← hx3, ← hx4, hb_2, hb_4, d_6, m_6, d_8, c_7, c_8]; done) | (simp [sp_about, isI, ← hx3, ← hx4, hb_2, hb_4, d_6, m_6, d_8, c_7, c_8]; done)) hP hD hS
            have n_7 : i_4 = 0 := (ni_eq (a := i_4) (b := 0) ei_4 (rfl : (0 : Int32) = nI 0) (by omega) (by decide)).mp c_7
            refine lv_iload_n hx hb dX4_about_115 rfl (lv_at hl 2 rfl) ?_
            refine lv_goto (tgt := 130) hx hb dX4_about_116 (by decide) ?_
            exact hret 130 _ x3 (gg, mm) _ _ dX4_about_130 (by have e9 : j = 4 := (by omega); subst e9; first | (simp [sp_about, ← hx3, ← hx4, hb_2, hb_4, d_6, m_6, c_7]; done) | (simp [sp_about, isI, ← hx3, ← hx4, hb_2, hb_4, d_6, m_6, c_7]; done)) hP hD hS
          have n_6 : ¬ 4 ≤ j := fun q => c_6 ((ni_le (a := 4) (b := j) (rfl : (4 : Int32) = nI 4) hx5 (by decide) (by omega)).mpr q)
          have d_6 : x5 < 4 := Int32.not_le.1 c_6
          have m_6 : j < 4 := by omega
          refine lv_aload_n hx hb dX4_about_45 rfl (lv_at hl 3 rfl) ?_
          refine va_get (D := D) (ci := 3) (v := .ref a1) (C := RX4) (T := TX4) (N := 13) hx hb hts hi_X4 hown hK.1 hP 0 rfl rfl 0 (by decide) hk_9 (fun _ h9 => h9) rfl dX4_about_46 ?_
          refine lv_iload hx hb dX4_about_49 (lv_at hl 0 rfl) ?_
          refine xc_Si (As := [.ref a1, .int x5]) (rest := []) ⟨hx, hb, hml, hown, hts⟩ (kX4_nestIn l D cI a1 gg.r gg.n hI x5) (va_cwS 2 hts gX4_about_X4_nestIn rfl rfl rfl hs_X4_nestIn ⟨Nat.le_of_ble_eq_true rfl, Nat.le_of_ble_eq_true rfl⟩) hK hP [1] rfl rfl hl.1 rfl (Nat.le_of_ble_eq_true rfl) dX4_about_51 ⟨Nat.zero_le _, Nat.zero_le _⟩ (fun r_9 hr_9 => ?_)
          refine lv_iconst (v := 1) hx hb dX4_about_54 (by decide) ?_
          refine lv_iload_n hx hb dX4_about_55 rfl (lv_at hl 4 rfl) ?_
          refine lv_ishl hx hb dX4_about_56 ?_
          refine lv_ior hx hb dX4_about_57 ?_
          refine lv_topi (fun x_10 ex_10 => ?_)
          refine lv_istore (lv' := [(6, .int x_10), (5, .int x5), (4, .int x4), (3, .int x3), (0, .ref a0), (1, .int p0), (2, .int p1)]) hx hb dX4_about_58 hl (by decide) rfl (fun ls hl => ?_)
          refine lv_aload_n hx hb dX4_about_60 rfl (lv_at hl 4 rfl) ?_
          refine va_get (D := D) (ci := 3) (v := .ref a1) (C := RX4) (T := TX4) (N := 13) hx hb hts hi_X4 hown hK.1 hP 0 rfl rfl 0 (by decide) hk_9 (fun _ h9 => h9) rfl dX4_about_61 ?_
          refine lv_iload hx hb dX4_about_64 (lv_at hl 0 rfl) ?_
          refine xc_Si (As := [.ref a1, .int x_10]) (rest := []) ⟨hx, hb, hml, hown, hts⟩ (kX4_holdsSet l D cI a1 gg.r gg.n hI x_10) (va_cwS 2 hts gX4_about_X4_holdsSet rfl rfl rfl hs_X4_holdsSet ⟨Nat.le_of_ble_eq_true rfl, Nat.le_of_ble_eq_true rfl⟩) hK hP [1] rfl rfl hl.1 rfl (Nat.le_of_ble_eq_true rfl) dX4_about_66 ⟨Nat.zero_le _, Nat.zero_le _⟩ (fun r_11 hr_11 => ?_)
          refine lv_if_eq (tgt := 105) hx hb dX4_about_69 (by decide) (fun c_12 => ?_) (fun c_12 => ?_)
          · skip
            have hb_12 : hld gg.r gg.n x_10 = false := bool_f hr_11 c_12
            have hbn_12 := hb_12
            try rw [ex_10] at hb_12
            obtain ⟨x_13, ex_13⟩ : ∃ z : Int32, z = x5 + 1 := ⟨_, rfl⟩
            refine lv_iinc (v := x_13) (lv' := [(5, .int x_13), (6, .int x_10), (4, .int x4), (3, .int x3), (0, .ref a0), (1, .int p0), (2, .int p1)]) hx hb dX4_about_105 hl (k := 1) rfl (by rw [ex_13]; rfl) (by decide) rfl (fun ls hl => ?_)
            refine lv_goto (tgt := 39) hx hb dX4_about_108 (by decide) ?_
            exact ih_5 (j + 1) x_13 x4 x3 _ _ _ (by omega) (ni_add (a := j) (b := 1) ex_13 hx5 (rfl : (1 : Int32) = nI 1)) (by omega) (by rw [abF]; simp only [← hx5, ← hx3, ← hx4]; first | (simp only [not_true_eq_false, not_false_eq_true, false_and, and_false, true_and, and_true, or_true, true_or, or_false, false_or, if_true, if_false, Bool.false_eq_true, Bool.true_eq_false, reduceCtorEq, and_self, or_self, ← hx5, ← hx3, ← hx4, ← hr_9, ← ex_10, ← ex_13, c_2, c_4, c_6, c_12, n_6, d_6, m_6, hbn_12]; done) | (simp only [not_true_eq_false, not_false_eq_true, false_and, and_false, true_and, and_true, or_true, true_or, or_false, false_or, if_true, if_false, Bool.false_eq_true, Bool.true_eq_false, reduceCtorEq, and_self, or_self, ← hx5, ← hx3, ← hx4, ← hr_9, ← ex_10, ← ex_13, c_2, c_4, c_6, c_12, n_6, d_6, m_6, hbn_12]; simp only [hr_9, ex_10, ex_13]; done) | (simp [← hx5, ← hx3, ← hx4, ← hr_9, ← ex_10, ← ex_13, c_2, c_4, c_6, c_12, n_6, d_6, m_6, hbn_12]; done)) (by rw [abF]; simp only [← hx5, ← hx3, ← hx4]; first | (simp only [not_true_eq_false, not_false_eq_true, false_and, and_false, true_and, and_true, or_true, true_or, or_false, false_or, if_true, if_false, Bool.false_eq_true, Bool.true_eq_false, reduceCtorEq, and_self, or_self, ← hx5, ← hx3, ← hx4, ← hr_9, ← ex_10, ← ex_13, c_2, c_4, c_6, c_12, n_6, d_6, m_6, hbn_12]; done) | (simp only [not_true_eq_false, not_false_eq_true, false_and, and_false, true_and, and_true, or_true, true_or, or_false, false_or, if_true, if_false, Bool.false_eq_true, Bool.true_eq_false, reduceCtorEq, and_self, or_self, ← hx5, ← hx3, ← hx4, ← hr_9, ← ex_10, ← ex_13, c_2, c_4, c_6, c_12, n_6, d_6, m_6, hbn_12]; simp only [hr_9, ex_10, ex_13]; done) | (simp [← hx5, ← hx3, ← hx4, ← hr_9, ← ex_10, ← ex_13, c_2, c_4, c_6, c_12, n_6, d_6, m_6, hbn_12]; done)) hP hD hS (lv_sub hl [0, 2, 3, 4, 5, 6] rfl)
          have hb_12 : hld gg.r gg.n x_10 = true := bool_t hr_11 c_12
          have hbn_12 := hb_12
          try rw [ex_10] at hb_12
          refine lv_aload_n hx hb dX4_about_72 rfl (lv_at hl 4 rfl) ?_
          refine va_get (D := D) (ci := 3) (v := .ref a1) (C := RX4) (T := TX4) (N := 13) hx hb hts hi_X4 hown hK.1 hP 0 rfl rfl 0 (by decide) hk_9 (fun _ h9 => h9) rfl dX4_about_73 ?_
          refine lv_iload hx hb dX4_about_76 (lv_at hl 0 rfl) ?_
          refine lv_iconst (v := 1) hx hb dX4_about_78 (by decide) ?_
          refine xc_Si (As := [.ref a1, .int x_10, .int 1]) (rest := []) ⟨hx, hb, hml, hown, hts⟩ (kX4_sumOf l D cI a1 gg.r gg.n hI x_10 1) (va_cwS 3 hts gX4_about_X4_sumOf rfl rfl rfl hs_X4_sumOf ⟨Nat.le_of_ble_eq_true rfl, Nat.le_of_ble_eq_true rfl⟩) hK hP [1] rfl rfl hl.1 rfl (Nat.le_of_ble_eq_true rfl) dX4_about_79 ⟨Nat.zero_le _, Nat.zero_le _⟩ (fun r_14 hr_14 => ?_)
          refine lv_iload hx hb dX4_about_82 (lv_at hl 2 rfl) ?_
          refine lv_icmp_gt (tgt := 90) hx hb dX4_about_84 (by decide) (fun c_15 => ?_) (fun c_15 => ?_)
          · skip
            have d_15 : ¬ r_14 ≤ x4 := Int32.not_le.2 c_15
            refine lv_iload hx hb dX4_about_90 (lv_at hl 1 rfl) ?_
            refine lv_istore_n (lv' := [(3, .int x5), (6, .int x_10), (5, .int x5), (4, .int x4), (0, .ref a0), (1, .int p0), (2, .int p1)]) hx hb dX4_about_92 rfl hl (by decide) rfl (fun ls hl => ?_)
            refine lv_aload_n hx hb dX4_about_93 rfl (lv_at hl 4 rfl) ?_
            refine va_get (D := D) (ci := 3) (v := .ref a1) (C := RX4) (T := TX4) (N := 13) hx hb hts hi_X4 hown hK.1 hP 0 rfl rfl 0 (by decide) hk_9 (fun _ h9 => h9) rfl dX4_about_94 ?_
            refine lv_iload hx hb dX4_about_97 (lv_at hl 1 rfl) ?_
            refine lv_iconst (v := 1) hx hb dX4_about_99 (by decide) ?_
            refine xc_Si (As := [.ref a1, .int x_10, .int 1]) (rest := []) ⟨hx, hb, hml, hown, hts⟩ (kX4_sumOf l D cI a1 gg.r gg.n hI x_10 1) (va_cwS 3 hts gX4_about_X4_sumOf rfl rfl rfl hs_X4_sumOf ⟨Nat.le_of_ble_eq_true rfl, Nat.le_of_ble_eq_true rfl⟩) hK hP [1] rfl rfl hl.1 rfl (Nat.le_of_ble_eq_true rfl) dX4_about_100 ⟨Nat.zero_le _, Nat.zero_le _⟩ (fun r_16 hr_16 => ?_)
            refine lv_istore (lv' := [(4, .int r_16), (3, .int x5), (6, .int x_10), (5, .int x5), (0, .ref a0), (1, .int p0), (2, .int p1)]) hx hb dX4_about_103 hl (by decide) rfl (fun ls hl => ?_)
            obtain ⟨x_17, ex_17⟩ : ∃ z : Int32, z = x5 + 1 := ⟨_, rfl⟩
            refine lv_iinc (v := x_17) (lv' := [(5, .int x_17), (4, .int r_16), (3, .int x5), (6, .int x_10), (0, .ref a0), (1, .int p0), (2, .int p1)]) hx hb dX4_about_105 hl (k := 3) rfl (by rw [ex_17]; rfl) (by decide) rfl (fun ls hl => ?_)
            refine lv_goto (tgt := 39) hx hb dX4_about_108 (by decide) ?_
            exact ih_5 (j + 1) x_17 r_16 x5 _ _ _ (by omega) (ni_add (a := j) (b := 1) ex_17 hx5 (rfl : (1 : Int32) = nI 1)) (by omega) (by rw [abF]; simp only [← hx5, ← hx3, ← hx4]; first | (simp only [not_true_eq_false, not_false_eq_true, false_and, and_false, true_and, and_true, or_true, true_or, or_false, false_or, if_true, if_false, Bool.false_eq_true, Bool.true_eq_false, reduceCtorEq, and_self, or_self, ← hx5, ← hx3, ← hx4, ← hr_9, ← ex_10, ← hr_14, ← hr_16, ← ex_17, c_2, c_4, c_6, c_12, c_15, n_6, d_6, m_6, d_15, hbn_12]; done) | (simp only [not_true_eq_false, not_false_eq_true, false_and, and_false, true_and, and_true, or_true, true_or, or_false, false_or, if_true, if_false, Bool.false_eq_true, Bool.true_eq_false, reduceCtorEq, and_self, or_self, ← hx5, ← hx3, ← hx4, ← hr_9, ← ex_10, ← hr_14, ← hr_16, ← ex_17, c_2, c_4, c_6, c_12, c_15, n_6, d_6, m_6, d_15, hbn_12]; simp only [hr_9, ex_10, hr_14, hr_16, ex_17]; done) | (simp [← hx5, ← hx3, ← hx4, ← hr_9, ← ex_10, ← hr_14, ← hr_16, ← ex_17, c_2, c_4, c_6, c_12, c_15, n_6, d_6, m_6, d_15, hbn_12]; done)) (by rw [abF]; simp only [← hx5, ← hx3, ← hx4]; first | (simp only [not_true_eq_false, not_false_eq_true, false_and, and_false, true_and, and_true, or_true, true_or, or_false, false_or, if_true, if_false, Bool.false_eq_true, Bool.true_eq_false, reduceCtorEq, and_self, or_self, ← hx5, ← hx3, ← hx4, ← hr_9, ← ex_10, ← hr_14, ← hr_16, ← ex_17, c_2, c_4, c_6, c_12, c_15, n_6, d_6, m_6, d_15, hbn_12]; done) | (simp only [not_true_eq_false, not_false_eq_true, false_and, and_false, true_and, and_true, or_true, true_or, or_false, false_or, if_true, if_false, Bool.false_eq_true, Bool.true_eq_false, reduceCtorEq, and_self, or_self, ← hx5, ← hx3, ← hx4, ← hr_9, ← ex_10, ← hr_14, ← hr_16, ← ex_17, c_2, c_4, c_6, c_12, c_15, n_6, d_6, m_6, d_15, hbn_12]; simp only [hr_9, ex_10, hr_14, hr_16, ex_17]; done) | (simp [← hx5, ← hx3, ← hx4, ← hr_9, ← ex_10, ← hr_14, ← hr_16, ← ex_17, c_2, c_4, c_6, c_12, c_15, n_6, d_6, m_6, d_15, hbn_12]; done)) hP hD hS (lv_sub hl [0, 1, 2, 4, 5, 6] rfl)
          have d_15 : r_14 ≤ x4 := Int32.not_lt.1 c_15
          refine lv_goto (tgt := 105) hx hb dX4_about_87 (by decide) ?_
          obtain ⟨x_18, ex_18⟩ : ∃ z : Int32, z = x5 + 1 := ⟨_, rfl⟩
          refine lv_iinc (v := x_18) (lv' := [(5, .int x_18), (6, .int x_10), (4, .int x4), (3, .int x3), (0, .ref a0), (1, .int p0), (2, .int p1)]) hx hb dX4_about_105 hl (k := 1) rfl (by rw [ex_18]; rfl) (by decide) rfl (fun ls hl => ?_)
          refine lv_goto (tgt := 39) hx hb dX4_about_108 (by decide) ?_
          exact ih_5 (j + 1) x_18 x4 x3 _ _ _ (by omega) (ni_add (a := j) (b := 1) ex_18 hx5 (rfl : (1 : Int32) = nI 1)) (by omega) (by rw [abF]; simp only [← hx5, ← hx3, ← hx4]; first | (simp only [not_true_eq_false, not_false_eq_true, false_and, and_false, true_and, and_true, or_true, true_or, or_false, false_or, if_true, if_false, Bool.false_eq_true, Bool.true_eq_false, reduceCtorEq, and_self, or_self, ← hx5, ← hx3, ← hx4, ← hr_9, ← ex_10, ← hr_14, ← ex_18, c_2, c_4, c_6, c_12, c_15, n_6, d_6, m_6, d_15, hbn_12]; done) | (simp only [not_true_eq_false, not_false_eq_true, false_and, and_false, true_and, and_true, or_true, true_or, or_false, false_or, if_true, if_false, Bool.false_eq_true, Bool.true_eq_false, reduceCtorEq, and_self, or_self, ← hx5, ← hx3, ← hx4, ← hr_9, ← ex_10, ← hr_14, ← ex_18, c_2, c_4, c_6, c_12, c_15, n_6, d_6, m_6, d_15, hbn_12]; simp only [hr_9, ex_10, hr_14, ex_18]; done) | (simp [← hx5, ← hx3, ← hx4, ← hr_9, ← ex_10, ← hr_14, ← ex_18, c_2, c_4, c_6, c_12, c_15, n_6, d_6, m_6, d_15, hbn_12]; done)) (by rw [abF]; simp only [← hx5, ← hx3, ← hx4]; first | (simp only [not_true_eq_false, not_false_eq_true, false_and, and_false, true_and, and_true, or_true, true_or, or_false, false_or, if_true, if_false, Bool.false_eq_true, Bool.true_eq_false, reduceCtorEq, and_self, or_self, ← hx5, ← hx3, ← hx4, ← hr_9, ← ex_10, ← hr_14, ← ex_18, c_2, c_4, c_6, c_12, c_15, n_6, d_6, m_6, d_15, hbn_12]; done) | (simp only [not_true_eq_false, not_false_eq_true, false_and, and_false, true_and, and_true, or_true, true_or, or_false, false_or, if_true, if_false, Bool.false_eq_true, Bool.true_eq_false, reduceCtorEq, and_self, or_self, ← hx5, ← hx3, ← hx4, ← hr_9, ← ex_10, ← hr_14, ← ex_18, c_2, c_4, c_6, c_12, c_15, n_6, d_6, m_6, d_15, hbn_12]; simp only [hr_9, ex_10, hr_14, ex_18]; done) | (simp [← hx5, ← hx3, ← hx4, ← hr_9, ← ex_10, ← hr_14, ← ex_18, c_2, c_4, c_6, c_12, c_15, n_6, d_6, m_6, d_15, hbn_12]; done)) hP hD hS (lv_sub hl [0, 2, 3, 4, 5, 6] rfl)
      exact lp_39_5 ((4 - 0) + 1) 0 0 (-1) (-9) _ _ _ (by omega) (rfl : (0 : Int32) = nI 0) (by omega) rfl rfl hP hD hS (lv_sub hl [0, 1, 2, 3, 4, 5] rfl)
    have hb_4 : isI p1 0 1 = false := bool_f (hr_3.trans isI_ite) c_4
    refine lv_aload_n hx hb dX4_about_23 rfl (lv_at hl 0 rfl) ?_
    refine lv_bipush (v := (-2)) hx hb dX4_about_24 (by decide) ?_
    refine xw_Vi (As := [.int (-2)]) (rest := []) (Wn := fun u => [(a0, .inr (3, [.ref a1, .ref a2, .ref a3, .ref a4, .int gg.hs, .ref a5, .ref a6, .ref a7, .int (nI gg.L), .int (nI gg.M), .int mm.pl, .ref a8, .int mm.sd])), (a1, .inl (cI, 49, .inl gg.r)), (a2, .inl (cI, 49, .inl mm.m)), (a3, .inl (cI, 49, .inl gg.im)), (a4, .inl (cI, 49, .inl mm.ws)), (a5, .inl (cI, 96, .inl gg.lt)), (a6, .inl (cI, 16, .inl gg.rw)), (a7, .inl (cI, 7, .inl (upd gg.rf (cN (-2)) (gg.rf (cN (-2)) + 1)))), (a8, .inl (cI, 3, .inl mm.nb))]) (Wr := [(a1, .inl (cI, 49, .inl gg.r)), (a2, .inl (cI, 49, .inl mm.m)), (a3, .inl (cI, 49, .inl gg.im)), (a4, .inl (cI, 49, .inl mm.ws)), (a5, .inl (cI, 96, .inl gg.lt)), (a6, .inl (cI, 16, .inl gg.rw)), (a8, .inl (cI, 3, .inl mm.nb))]) ⟨hx, hb, hml, hown, hts⟩ (kX4_no l D cI H.size a0 a1 a2 a3 a4 a5 a6 a7 a8 gg mm (-2) okc_2) (cwV 1 hts gX4_about_X4_no rfl rfl rfl hv_X4_no ⟨Nat.le_of_ble_eq_true rfl, Nat.le_of_ble_eq_true rfl⟩) hK hP hD hS hA [0, 7] [1, 2, 3, 4, 5, 6, 8] [7, 0, 1, 2, 3, 4, 5, 8, 6] rfl rfl (by decide) (by decide) (by decide) (by decide) (fun u => rfl) 0 rfl rfl rfl hl.1 rfl (Nat.le_of_ble_eq_true rfl) dX4_about_26 ⟨Nat.zero_le _, Nat.zero_le _⟩ (fun r_19 u_19 H locs hw_19 hP hD hS => ?_)
    exact hret 29 _ r_19 ((gg.n, gg.r, gg.m, gg.im, gg.hs, gg.lt, gg.L, gg.rw, gg.M, (upd gg.rf (cN (-2)) (gg.rf (cN (-2)) + 1))), mm) _ _ dX4_about_29 (by first | (simp [sp_about, rfz, us, c_2, c_4, hb_2, tn_2, hb_4, hw_19]; done) | (simp [sp_about, rfz, us, c_2, c_4, hb_2, tn_2, hb_4, hw_19, isI]; done) | (simp [sp_about, rfz, us, c_2, c_4, hb_2, tn_2, hb_4, hw_19, wrB, lackF]; done)) hP hD hS
  have hb_2 : sayB gg.n p0 = false := bool_f hr_1 c_2
  refine lv_aload_n hx hb dX4_about_8 rfl (lv_at hl 0 rfl) ?_
  refine lv_iconst (v := (-1)) hx hb dX4_about_9 (by decide) ?_
  refine xw_Vi (As := [.int (-1)]) (rest := []) (Wn := fun u => [(a0, .inr (3, [.ref a1, .ref a2, .ref a3, .ref a4, .int gg.hs, .ref a5, .ref a6, .ref a7, .int (nI gg.L), .int (nI gg.M), .int mm.pl, .ref a8, .int mm.sd])), (a1, .inl (cI, 49, .inl gg.r)), (a2, .inl (cI, 49, .inl mm.m)), (a3, .inl (cI, 49, .inl gg.im)), (a4, .inl (cI, 49, .inl mm.ws)), (a5, .inl (cI, 96, .inl gg.lt)), (a6, .inl (cI, 16, .inl gg.rw)), (a7, .inl (cI, 7, .inl (upd gg.rf (cN (-1)) (gg.rf (cN (-1)) + 1)))), (a8, .inl (cI, 3, .inl mm.nb))]) (Wr := [(a1, .inl (cI, 49, .inl gg.r)), (a2, .inl (cI, 49, .inl mm.m)), (a3, .inl (cI, 49, .inl gg.im)), (a4, .inl (cI, 49, .inl mm.ws)), (a5, .inl (cI, 96, .inl gg.lt)), (a6, .inl (cI, 16, .inl gg.rw)), (a8, .inl (cI, 3, .inl mm.nb))]) ⟨hx, hb, hml, hown, hts⟩ (kX4_no l D cI H.size a0 a1 a2 a3 a4 a5 a6 a7 a8 gg mm (-1) okc_1) (cwV 1 hts gX4_about_X4_no rfl rfl rfl hv_X4_no ⟨Nat.le_of_ble_eq_true rfl, Nat.le_of_ble_eq_true rfl⟩) hK hP hD hS hA [0, 7] [1, 2, 3, 4, 5, 6, 8] [7, 0, 1, 2, 3, 4, 5, 8, 6] rfl rfl (by decide) (by decide) (by decide) (by decide) (fun u => rfl) 0 rfl rfl rfl hl.1 rfl (Nat.le_of_ble_eq_true rfl) dX4_about_10 ⟨Nat.zero_le _, Nat.zero_le _⟩ (fun r_20 u_20 H locs hw_20 hP hD hS => ?_)
  exact hret 13 _ r_20 ((gg.n, gg.r, gg.m, gg.im, gg.hs, gg.lt, gg.L, gg.rw, gg.M, (upd gg.rf (cN (-1)) (gg.rf (cN (-1)) + 1))), mm) _ _ dX4_about_13 (by first | (simp [sp_about, rfz, us, c_2, hb_2, hw_20]; done) | (simp [sp_about, rfz, us, c_2, hb_2, hw_20, isI]; done) | (simp [sp_about, rfz, us, c_2, hb_2, hw_20, wrB, lackF]; done)) hP hD hS

set_option maxHeartbeats 4000000 in
set_option maxRecDepth 100000 in
theorem kX4_known (l : Launch) (D : va_G) (cI : ClassId) (sz : Nat) (a0 a1 a2 a3 a4 a5 a6 a7 a8 : Nat) (gg : GG) (mm : MS) (hG : Good gg) : Met l yX4_known wsX4_known ({ frames := 3, cells := 0, slots := 0, locals := 66 }) (PRW D cI [.ref a0] [(a0, .inr (3, [.ref a1, .ref a2, .ref a3, .ref a4, .int gg.hs, .ref a5, .ref a6, .ref a7, .int (nI gg.L), .int (nI gg.M), .int mm.pl, .ref a8, .int mm.sd])), (a1, .inl (cI, 49, .inl gg.r)), (a2, .inl (cI, 49, .inl mm.m)), (a3, .inl (cI, 49, .inl gg.im)), (a4, .inl (cI, 49, .inl mm.ws)), (a5, .inl (cI, 96, .inl gg.lt)), (a6, .inl (cI, 16, .inl gg.rw)), (a7, .inl (cI, 7, .inl gg.rf)), (a8, .inl (cI, 3, .inl mm.nb))] sz) (va_Qi (S := GG × MS) (fun v u => (v, u.1) = sp_known gg) (BRW D [(a0, .inr (3, [.ref a1, .ref a2, .ref a3, .ref a4, .int gg.hs, .ref a5, .ref a6, .ref a7, .int (nI gg.L), .int (nI gg.M), .int mm.pl, .ref a8, .int mm.sd])), (a1, .inl (cI, 49, .inl gg.r)), (a2, .inl (cI, 49, .inl mm.m)), (a3, .inl (cI, 49, .inl gg.im)), (a4, .inl (cI, 49, .inl mm.ws)), (a5, .inl (cI, 96, .inl gg.lt)), (a6, .inl (cI, 16, .inl gg.rw)), (a7, .inl (cI, 7, .inl gg.rf)), (a8, .inl (cI, 3, .inl mm.nb))] sz (fun u => [(a0, .inr (3, [.ref a1, .ref a2, .ref a3, .ref a4, .int u.1.hs, .ref a5, .ref a6, .ref a7, .int (nI u.1.L), .int (nI u.1.M), .int u.2.pl, .ref a8, .int u.2.sd])), (a1, .inl (cI, 49, .inl u.1.r)), (a2, .inl (cI, 49, .inl u.2.m)), (a3, .inl (cI, 49, .inl u.1.im)), (a4, .inl (cI, 49, .inl u.2.ws)), (a5, .inl (cI, 96, .inl u.1.lt)), (a6, .inl (cI, 16, .inl u.1.rw)), (a7, .inl (cI, 7, .inl u.1.rf)), (a8, .inl (cI, 3, .inl u.2.nb))])) (va_A [(a0, .inr (3, [.ref a1, .ref a2, .ref a3, .ref a4, .int gg.hs, .ref a5, .ref a6, .ref a7, .int (nI gg.L), .int (nI gg.M), .int mm.pl, .ref a8, .int mm.sd])), (a1, .inl (cI, 49, .inl gg.r)), (a2, .inl (cI, 49, .inl mm.m)), (a3, .inl (cI, 49, .inl gg.im)), (a4, .inl (cI, 49, .inl mm.ws)), (a5, .inl (cI, 96, .inl gg.lt)), (a6, .inl (cI, 16, .inl gg.rw)), (a7, .inl (cI, 7, .inl gg.rf)), (a8, .inl (cI, 3, .inl mm.nb))] sz)) 0 0 (va_A [(a0, .inr (3, [.ref a1, .ref a2, .ref a3, .ref a4, .int gg.hs, .ref a5, .ref a6, .ref a7, .int (nI gg.L), .int (nI gg.M), .int mm.pl, .ref a8, .int mm.sd])), (a1, .inl (cI, 49, .inl gg.r)), (a2, .inl (cI, 49, .inl mm.m)), (a3, .inl (cI, 49, .inl gg.im)), (a4, .inl (cI, 49, .inl mm.ws)), (a5, .inl (cI, 96, .inl gg.lt)), (a6, .inl (cI, 16, .inl gg.rw)), (a7, .inl (cI, 7, .inl gg.rf)), (a8, .inl (cI, 3, .inl mm.nb))] sz) := by
  refine st_rwi (cc := cX4_known) (maxL := 5) (rt := .int) (by decide) rfl (Nat.le_of_ble_eq_true rfl) (fun _ _ _ => rfl) ?_
  intro p e s m below meth c Q ls A hx hb hml hts hown hP hK hD hA hS hl hret
  replace hown : s.vm.findClass RX4 = some m.cls := hown
  replace hl : lv_has ls 5 [(0, .ref a0)] := hl
  obtain ⟨H, hH⟩ : ∃ z, z = s.heap := ⟨_, rfl⟩
  obtain ⟨locs, hlo⟩ : ∃ z : List Loc, z = [] := ⟨_, rfl⟩
  replace hP : va_P D vwCl [(a0, .inr (3, [.ref a1, .ref a2, .ref a3, .ref a4, .int gg.hs, .ref a5, .ref a6, .ref a7, .int (nI gg.L), .int (nI gg.M), .int mm.pl, .ref a8, .int mm.sd])), (a1, .inl (cI, 49, .inl gg.r)), (a2, .inl (cI, 49, .inl mm.m)), (a3, .inl (cI, 49, .inl gg.im)), (a4, .inl (cI, 49, .inl mm.ws)), (a5, .inl (cI, 96, .inl gg.lt)), (a6, .inl (cI, 16, .inl gg.rw)), (a7, .inl (cI, 7, .inl gg.rf)), (a8, .inl (cI, 3, .inl mm.nb))] H := by rw [hH]; exact hP
  replace hS : va_S A s.heap H locs := by rw [hH, hlo]; exact hS
  show W p l e ({ frames := 3, cells := 0, slots := 0, locals := 66 }) s m [.ref a0].toArray below meth c s.heap [] 0 0 Q (F0 m 0 ls [])
  rw [← hlo]
  suffices hgo : W p l e ({ frames := 3, cells := 0, slots := 0, locals := 66 }) s m [.ref a0].toArray below meth c H locs 0 0 Q (F0 m 0 ls []) by rw [hH] at hgo; exact hgo
  clear hH hlo
  have hi_X4 : ∀ w ∈ wsX40, w ∈ wsX4_known := fun w h => List.mem_cons_of_mem _ (List.mem_append_right _ (h))
  have hk_9 := hts (.fieldLink RX4 9 "NestsOfTalkModel" "s" "[I") (List.mem_of_getElem? (i := 1) rfl)
  have hI := hG.inv
  have hn9 := hI.le
  have hL96 := hG.L96
  have hM16 := hG.M16
  refine lv_iconst (v := 0) hx hb dX4_known_0 (by decide) ?_
  refine lv_istore_n (lv' := [(1, .int 0), (0, .ref a0)]) hx hb dX4_known_1 rfl hl (by decide) rfl (fun ls hl => ?_)
  refine lv_iconst (v := 0) hx hb dX4_known_2 (by decide) ?_
  refine lv_istore_n (lv' := [(2, .int 0), (1, .int 0), (0, .ref a0)]) hx hb dX4_known_3 rfl hl (by decide) rfl (fun ls hl => ?_)
  refine lv_iconst (v := 0) hx hb dX4_known_4 (by decide) ?_
  refine lv_istore_n (lv' := [(3, .int 0), (2, .int 0), (1, .int 0), (0, .ref a0)]) hx hb dX4_known_5 rfl hl (by decide) rfl (fun ls hl => ?_)
  have lp_6_1 : ∀ (fu : Nat) (j : Nat) (x3 : Int32) (x2 : Int32) (x1 : Int32) (ls : Array Slot) (H : Heap) (locs : List Loc), 4 - j < fu → (x3 = nI j) → (j ≤ 4) → (x1 = (knF gg.r gg.n j).1) → (x2 = (knF gg.r gg.n j).2) → va_P D vwCl [(a0, .inr (3, [.ref a1, .ref a2, .ref a3, .ref a4, .int gg.hs, .ref a5, .ref a6, .ref a7, .int (nI gg.L), .int (nI gg.M), .int mm.pl, .ref a8, .int mm.sd])), (a1, .inl (cI, 49, .inl gg.r)), (a2, .inl (cI, 49, .inl mm.m)), (a3, .inl (cI, 49, .inl gg.im)), (a4, .inl (cI, 49, .inl mm.ws)), (a5, .inl (cI, 96, .inl gg.lt)), (a6, .inl (cI, 16, .inl gg.rw)), (a7, .inl (cI, 7, .inl gg.rf)), (a8, .inl (cI, 3, .inl mm.nb))] H → va_D A [(a0, .inr (3, [.ref a1, .ref a2, .ref a3, .ref a4, .int gg.hs, .ref a5, .ref a6, .ref a7, .int (nI gg.L), .int (nI gg.M), .int mm.pl, .ref a8, .int mm.sd])), (a1, .inl (cI, 49, .inl gg.r)), (a2, .inl (cI, 49, .inl mm.m)), (a3, .inl (cI, 49, .inl gg.im)), (a4, .inl (cI, 49, .inl mm.ws)), (a5, .inl (cI, 96, .inl gg.lt)), (a6, .inl (cI, 16, .inl gg.rw)), (a7, .inl (cI, 7, .inl gg.rf)), (a8, .inl (cI, 3, .inl mm.nb))] → va_S A s.heap H locs → lv_has ls 5 [(3, .int x3), (2, .int x2), (1, .int x1), (0, .ref a0)] → W p l e ({ frames := 3, cells := 0, slots := 0, locals := 66 }) s m [.ref a0].toArray below meth c H locs 0 0 Q (F0 m 6 ls []) := by
    intro fu
    induction fu with
    | zero =>
      intro j x3 x2 x1 ls H locs hfu
      exact absurd hfu (Nat.not_lt_zero _)
    | succ fu ih_1 =>
      intro j x3 x2 x1 ls H locs hfu hx3 hi hx1 hx2 hP hD hS hl
      refine lv_iload_n hx hb dX4_known_6 rfl (lv_at hl 0 rfl) ?_
      refine lv_iconst (v := 4) hx hb dX4_known_7 (by decide) ?_
      refine lv_icmp_ge (tgt := 54) hx hb dX4_known_8 (by decide) (fun c_2 => ?_) (fun c_2 => ?_)
      · skip
        have n_2 : 4 ≤ j := (ni_le (a := 4) (b := j) (rfl : (4 : Int32) = nI 4) hx3 (by decide) (by omega)).mp c_2
        have d_2 : ¬ x3 < 4 := Int32.not_lt.2 c_2
        have m_2 : ¬ j < 4 := by omega
        refine lv_iload_n hx hb dX4_known_54 rfl (lv_at hl 2 rfl) ?_
        exact hret 55 _ x1 (gg, mm) _ _ dX4_known_55 (by have e9 : j = 4 := (by omega); subst e9; simp [sp_known, hx1]) hP hD hS
      have n_2 : ¬ 4 ≤ j := fun q => c_2 ((ni_le (a := 4) (b := j) (rfl : (4 : Int32) = nI 4) hx3 (by decide) (by omega)).mpr q)
      have d_2 : x3 < 4 := Int32.not_le.1 c_2
      have m_2 : j < 4 := by omega
      refine lv_aload_n hx hb dX4_known_11 rfl (lv_at hl 3 rfl) ?_
      refine va_get (D := D) (ci := 3) (v := .ref a1) (C := RX4) (T := TX4) (N := 13) hx hb hts hi_X4 hown hK.1 hP 0 rfl rfl 0 (by decide) hk_9 (fun _ h9 => h9) rfl dX4_known_12 ?_
      refine lv_iload_n hx hb dX4_known_15 rfl (lv_at hl 0 rfl) ?_
      refine xc_Si (As := [.ref a1, .int x3]) (rest := []) ⟨hx, hb, hml, hown, hts⟩ (kX4_nestIn l D cI a1 gg.r gg.n hI x3) (va_cwS 2 hts gX4_known_X4_nestIn rfl rfl rfl hs_X4_nestIn ⟨Nat.le_of_ble_eq_true rfl, Nat.le_of_ble_eq_true rfl⟩) hK hP [1] rfl rfl hl.1 rfl (Nat.le_of_ble_eq_true rfl) dX4_known_16 ⟨Nat.zero_le _, Nat.zero_le _⟩ (fun r_3 hr_3 => ?_)
      refine lv_aload_n hx hb dX4_known_19 rfl (lv_at hl 3 rfl) ?_
      refine va_get (D := D) (ci := 3) (v := .ref a1) (C := RX4) (T := TX4) (N := 13) hx hb hts hi_X4 hown hK.1 hP 0 rfl rfl 0 (by decide) hk_9 (fun _ h9 => h9) rfl dX4_known_20 ?_
      refine lv_iload_n hx hb dX4_known_23 rfl (lv_at hl 0 rfl) ?_
      refine lv_iconst (v := 0) hx hb dX4_known_24 (by decide) ?_
      refine xc_Si (As := [.ref a1, .int x3, .int 0]) (rest := [.int r_3]) ⟨hx, hb, hml, hown, hts⟩ (kX4_ofHer l D cI a1 gg.r gg.n hI x3 0) (va_cwS 3 hts gX4_known_X4_ofHer rfl rfl rfl hs_X4_ofHer ⟨Nat.le_of_ble_eq_true rfl, Nat.le_of_ble_eq_true rfl⟩) hK hP [1] rfl rfl hl.1 rfl (Nat.le_of_ble_eq_true rfl) dX4_known_25 ⟨Nat.zero_le _, Nat.zero_le _⟩ (fun r_4 hr_4 => ?_)
      replace hr_4 : r_4 = sad gg.r gg.n x3 := hr_4
      refine lv_ior hx hb dX4_known_28 ?_
      refine xc_Si (As := [.int (r_3 ||| r_4)]) (rest := []) ⟨hx, hb, hml, hown, hts⟩ (kX4_bits l D cI (r_3 ||| r_4)) (va_cwS 1 hts gX4_known_X4_bits rfl rfl rfl hs_X4_bits ⟨Nat.le_of_ble_eq_true rfl, Nat.le_of_ble_eq_true rfl⟩) hK hP [] rfl rfl hl.1 rfl (Nat.le_of_ble_eq_true rfl) dX4_known_29 ⟨Nat.zero_le _, Nat.zero_le _⟩ (fun r_5 hr_5 => ?_)
      have hcl_5 := cntN_le (r_3 ||| r_4) 10
      refine lv_istore (lv' := [(4, .int r_5), (3, .int x3), (2, .int x2), (1, .int x1), (0, .ref a0)]) hx hb dX4_known_32 hl (by decide) rfl (fun ls hl => ?_)
      refine lv_iload hx hb dX4_known_34 (lv_at hl 0 rfl) ?_
      refine lv_iload_n hx hb dX4_known_36 rfl (lv_at hl 2 rfl) ?_
      refine lv_icmp_gt (tgt := 43) hx hb dX4_known_37 (by decide) (fun c_6 => ?_) (fun c_6 => ?_)
      · skip
        have d_6 : ¬ r_5 ≤ x2 := Int32.not_le.2 c_6
        refine lv_iload_n hx hb dX4_known_43 rfl (lv_at hl 1 rfl) ?_
        refine lv_istore_n (lv' := [(1, .int x3), (4, .int r_5), (3, .int x3), (2, .int x2), (0, .ref a0)]) hx hb dX4_known_44 rfl hl (by decide) rfl (fun ls hl => ?_)
        refine lv_iload hx hb dX4_known_45 (lv_at hl 1 rfl) ?_
        refine lv_istore_n (lv' := [(2, .int r_5), (1, .int x3), (4, .int r_5), (3, .int x3), (0, .ref a0)]) hx hb dX4_known_47 rfl hl (by decide) rfl (fun ls hl => ?_)
        obtain ⟨x_7, ex_7⟩ : ∃ z : Int32, z = x3 + 1 := ⟨_, rfl⟩
        refine lv_iinc (v := x_7) (lv' := [(3, .int x_7), (2, .int r_5), (1, .int x3), (4, .int r_5), (0, .ref a0)]) hx hb dX4_known_48 hl (k := 3) rfl (by rw [ex_7]; rfl) (by decide) rfl (fun ls hl => ?_)
        refine lv_goto (tgt := 6) hx hb dX4_known_51 (by decide) ?_
        exact ih_1 (j + 1) x_7 r_5 x3 _ _ _ (by omega) (ni_add (a := j) (b := 1) ex_7 hx3 (rfl : (1 : Int32) = nI 1)) (by omega) (by rw [knF]; simp only [← hx3, ← hx1, ← hx2]; first | (simp only [not_true_eq_false, not_false_eq_true, false_and, and_false, true_and, and_true, or_true, true_or, or_false, false_or, if_true, if_false, Bool.false_eq_true, Bool.true_eq_false, reduceCtorEq, and_self, or_self, ← hx3, ← hx1, ← hx2, ← hr_3, ← hr_4, ← hr_5, ← ex_7, c_2, c_6, n_2, d_2, m_2, d_6]; done) | (simp only [not_true_eq_false, not_false_eq_true, false_and, and_false, true_and, and_true, or_true, true_or, or_false, false_or, if_true, if_false, Bool.false_eq_true, Bool.true_eq_false, reduceCtorEq, and_self, or_self, ← hx3, ← hx1, ← hx2, ← hr_3, ← hr_4, ← hr_5, ← ex_7, c_2, c_6, n_2, d_2, m_2, d_6]; simp only [hr_3, hr_4, hr_5, ex_7]; done) | (simp [← hx3, ← hx1, ← hx2, ← hr_3, ← hr_4, ← hr_5, ← ex_7, c_2, c_6, n_2, d_2, m_2, d_6]; done)) (by rw [knF]; simp only [← hx3, ← hx1, ← hx2]; first | (simp only [not_true_eq_false, not_false_eq_true, false_and, and_false, true_and, and_true, or_true, true_or, or_false, false_or, if_true, if_false, Bool.false_eq_true, Bool.true_eq_false, reduceCtorEq, and_self, or_self, ← hx3, ← hx1, ← hx2, ← hr_3, ← hr_4, ← hr_5, ← ex_7, c_2, c_6, n_2, d_2, m_2, d_6]; done) | (simp only [not_true_eq_false, not_false_eq_true, false_and, and_false, true_and, and_true, or_true, true_or, or_false, false_or, if_true, if_false, Bool.false_eq_true, Bool.true_eq_false, reduceCtorEq, and_self, or_self, ← hx3, ← hx1, ← hx2, ← hr_3, ← hr_4, ← hr_5, ← ex_7, c_2, c_6, n_2, d_2, m_2, d_6]; simp only [hr_3, hr_4, hr_5, ex_7]; done) | (simp [← hx3, ← hx1, ← hx2, ← hr_3, ← hr_4, ← hr_5, ← ex_7, c_2, c_6, n_2, d_2, m_2, d_6]; done)) hP hD hS (lv_sub hl [0, 1, 2, 4] rfl)
      have d_6 : r_5 ≤ x2 := Int32.not_lt.1 c_6
      refine lv_goto (tgt := 48) hx hb dX4_known_40 (by decide) ?_
      obtain ⟨x_8, ex_8⟩ : ∃ z : Int32, z = x3 + 1 := ⟨_, rfl⟩
      refine lv_iinc (v := x_8) (lv' := [(3, .int x_8), (4, .int r_5), (2, .int x2), (1, .int x1), (0, .ref a0)]) hx hb dX4_known_48 hl (k := 1) rfl (by rw [ex_8]; rfl) (by decide) rfl (fun ls hl => ?_)
      refine lv_goto (tgt := 6) hx hb dX4_known_51 (by decide) ?_
      exact ih_1 (j + 1) x_8 x2 x1 _ _ _ (by omega) (ni_add (a := j) (b := 1) ex_8 hx3 (rfl : (1 : Int32) = nI 1)) (by omega) (by rw [knF]; simp only [← hx3, ← hx1, ← hx2]; first | (simp only [not_true_eq_false, not_false_eq_true, false_and, and_false, true_and, and_true, or_true, true_or, or_false, false_or, if_true, if_false, Bool.false_eq_true, Bool.true_eq_false, reduceCtorEq, and_self, or_self, ← hx3, ← hx1, ← hx2, ← hr_3, ← hr_4, ← hr_5, ← ex_8, c_2, c_6, n_2, d_2, m_2, d_6]; done) | (simp only [not_true_eq_false, not_false_eq_true, false_and, and_false, true_and, and_true, or_true, true_or, or_false, false_or, if_true, if_false, Bool.false_eq_true, Bool.true_eq_false, reduceCtorEq, and_self, or_self, ← hx3, ← hx1, ← hx2, ← hr_3, ← hr_4, ← hr_5, ← ex_8, c_2, c_6, n_2, d_2, m_2, d_6]; simp only [hr_3, hr_4, hr_5, ex_8]; done) | (simp [← hx3, ← hx1, ← hx2, ← hr_3, ← hr_4, ← hr_5, ← ex_8, c_2, c_6, n_2, d_2, m_2, d_6]; done)) (by rw [knF]; simp only [← hx3, ← hx1, ← hx2]; first | (simp only [not_true_eq_false, not_false_eq_true, false_and, and_false, true_and, and_true, or_true, true_or, or_false, false_or, if_true, if_false, Bool.false_eq_true, Bool.true_eq_false, reduceCtorEq, and_self, or_self, ← hx3, ← hx1, ← hx2, ← hr_3, ← hr_4, ← hr_5, ← ex_8, c_2, c_6, n_2, d_2, m_2, d_6]; done) | (simp only [not_true_eq_false, not_false_eq_true, false_and, and_false, true_and, and_true, or_true, true_or, or_false, false_or, if_true, if_false, Bool.false_eq_true, Bool.true_eq_false, reduceCtorEq, and_self, or_self, ← hx3, ← hx1, ← hx2, ← hr_3, ← hr_4, ← hr_5, ← ex_8, c_2, c_6, n_2, d_2, m_2, d_6]; simp only [hr_3, hr_4, hr_5, ex_8]; done) | (simp [← hx3, ← hx1, ← hx2, ← hr_3, ← hr_4, ← hr_5, ← ex_8, c_2, c_6, n_2, d_2, m_2, d_6]; done)) hP hD hS (lv_sub hl [0, 2, 3, 4] rfl)
  exact lp_6_1 ((4 - 0) + 1) 0 0 0 0 _ _ _ (by omega) (rfl : (0 : Int32) = nI 0) (by omega) rfl rfl hP hD hS (lv_sub hl [0, 1, 2, 3] rfl)

set_option maxHeartbeats 4000000 in
set_option maxRecDepth 100000 in
theorem kX4_lodge (l : Launch) (D : va_G) (cI : ClassId) (sz : Nat) (a0 a1 a2 a3 a4 a5 a6 a7 a8 : Nat) (gg : GG) (mm : MS) (hG : Good gg) : Met l yX4_lodge wsX4_lodge ({ frames := 5, cells := 0, slots := 0, locals := 110 }) (PRW D cI [.ref a0] [(a0, .inr (3, [.ref a1, .ref a2, .ref a3, .ref a4, .int gg.hs, .ref a5, .ref a6, .ref a7, .int (nI gg.L), .int (nI gg.M), .int mm.pl, .ref a8, .int mm.sd])), (a1, .inl (cI, 49, .inl gg.r)), (a2, .inl (cI, 49, .inl mm.m)), (a3, .inl (cI, 49, .inl gg.im)), (a4, .inl (cI, 49, .inl mm.ws)), (a5, .inl (cI, 96, .inl gg.lt)), (a6, .inl (cI, 16, .inl gg.rw)), (a7, .inl (cI, 7, .inl gg.rf)), (a8, .inl (cI, 3, .inl mm.nb))] sz) (va_Qi (S := GG × MS) (fun v u => (v, u.1) = sp_lodge gg) (BRW D [(a0, .inr (3, [.ref a1, .ref a2, .ref a3, .ref a4, .int gg.hs, .ref a5, .ref a6, .ref a7, .int (nI gg.L), .int (nI gg.M), .int mm.pl, .ref a8, .int mm.sd])), (a1, .inl (cI, 49, .inl gg.r)), (a2, .inl (cI, 49, .inl mm.m)), (a3, .inl (cI, 49, .inl gg.im)), (a4, .inl (cI, 49, .inl mm.ws)), (a5, .inl (cI, 96, .inl gg.lt)), (a6, .inl (cI, 16, .inl gg.rw)), (a7, .inl (cI, 7, .inl gg.rf)), (a8, .inl (cI, 3, .inl mm.nb))] sz (fun u => [(a0, .inr (3, [.ref a1, .ref a2, .ref a3, .ref a4, .int u.1.hs, .ref a5, .ref a6, .ref a7, .int (nI u.1.L), .int (nI u.1.M), .int u.2.pl, .ref a8, .int u.2.sd])), (a1, .inl (cI, 49, .inl u.1.r)), (a2, .inl (cI, 49, .inl u.2.m)), (a3, .inl (cI, 49, .inl u.1.im)), (a4, .inl (cI, 49, .inl u.2.ws)), (a5, .inl (cI, 96, .inl u.1.lt)), (a6, .inl (cI, 16, .inl u.1.rw)), (a7, .inl (cI, 7, .inl u.1.rf)), (a8, .inl (cI, 3, .inl u.2.nb))])) (va_A [(a0, .inr (3, [.ref a1, .ref a2, .ref a3, .ref a4, .int gg.hs, .ref a5, .ref a6, .ref a7, .int (nI gg.L), .int (nI gg.M), .int mm.pl, .ref a8, .int mm.sd])), (a1, .inl (cI, 49, .inl gg.r)), (a2, .inl (cI, 49, .inl mm.m)), (a3, .inl (cI, 49, .inl gg.im)), (a4, .inl (cI, 49, .inl mm.ws)), (a5, .inl (cI, 96, .inl gg.lt)), (a6, .inl (cI, 16, .inl gg.rw)), (a7, .inl (cI, 7, .inl gg.rf)), (a8, .inl (cI, 3, .inl mm.nb))] sz)) 0 0 (va_A [(a0, .inr (3, [.ref a1, .ref a2, .ref a3, .ref a4, .int gg.hs, .ref a5, .ref a6, .ref a7, .int (nI gg.L), .int (nI gg.M), .int mm.pl, .ref a8, .int mm.sd])), (a1, .inl (cI, 49, .inl gg.r)), (a2, .inl (cI, 49, .inl mm.m)), (a3, .inl (cI, 49, .inl gg.im)), (a4, .inl (cI, 49, .inl mm.ws)), (a5, .inl (cI, 96, .inl gg.lt)), (a6, .inl (cI, 16, .inl gg.rw)), (a7, .inl (cI, 7, .inl gg.rf)), (a8, .inl (cI, 3, .inl mm.nb))] sz) := by
  refine st_rwi (cc := cX4_lodge) (maxL := 5) (rt := .int) (by decide) rfl (Nat.le_of_ble_eq_true rfl) (fun _ _ _ => rfl) ?_
  intro p e s m below meth c Q ls A hx hb hml hts hown hP hK hD hA hS hl hret
  replace hown : s.vm.findClass RX4 = some m.cls := hown
  replace hl : lv_has ls 5 [(0, .ref a0)] := hl
  obtain ⟨H, hH⟩ : ∃ z, z = s.heap := ⟨_, rfl⟩
  obtain ⟨locs, hlo⟩ : ∃ z : List Loc, z = [] := ⟨_, rfl⟩
  replace hP : va_P D vwCl [(a0, .inr (3, [.ref a1, .ref a2, .ref a3, .ref a4, .int gg.hs, .ref a5, .ref a6, .ref a7, .int (nI gg.L), .int (nI gg.M), .int mm.pl, .ref a8, .int mm.sd])), (a1, .inl (cI, 49, .inl gg.r)), (a2, .inl (cI, 49, .inl mm.m)), (a3, .inl (cI, 49, .inl gg.im)), (a4, .inl (cI, 49, .inl mm.ws)), (a5, .inl (cI, 96, .inl gg.lt)), (a6, .inl (cI, 16, .inl gg.rw)), (a7, .inl (cI, 7, .inl gg.rf)), (a8, .inl (cI, 3, .inl mm.nb))] H := by rw [hH]; exact hP
  replace hS : va_S A s.heap H locs := by rw [hH, hlo]; exact hS
  show W p l e ({ frames := 5, cells := 0, slots := 0, locals := 110 }) s m [.ref a0].toArray below meth c s.heap [] 0 0 Q (F0 m 0 ls [])
  rw [← hlo]
  suffices hgo : W p l e ({ frames := 5, cells := 0, slots := 0, locals := 110 }) s m [.ref a0].toArray below meth c H locs 0 0 Q (F0 m 0 ls []) by rw [hH] at hgo; exact hgo
  clear hH hlo
  have hi_X4 : ∀ w ∈ wsX40, w ∈ wsX4_lodge := fun w h => List.mem_cons_of_mem _ (List.mem_append_right _ (h))
  have hk_9 := hts (.fieldLink RX4 9 "NestsOfTalkModel" "s" "[I") (List.mem_of_getElem? (i := 1) rfl)
  have hI := hG.inv
  have hn9 := hI.le
  have hL96 := hG.L96
  have hM16 := hG.M16
  refine lv_bipush (v := (-9)) hx hb dX4_lodge_0 (by decide) ?_
  refine lv_istore_n (lv' := [(1, .int (-9)), (0, .ref a0)]) hx hb dX4_lodge_2 rfl hl (by decide) rfl (fun ls hl => ?_)
  refine lv_iconst (v := (-1)) hx hb dX4_lodge_3 (by decide) ?_
  refine lv_istore_n (lv' := [(2, .int (-1)), (1, .int (-9)), (0, .ref a0)]) hx hb dX4_lodge_4 rfl hl (by decide) rfl (fun ls hl => ?_)
  refine lv_iconst (v := 0) hx hb dX4_lodge_5 (by decide) ?_
  refine lv_istore_n (lv' := [(3, .int 0), (2, .int (-1)), (1, .int (-9)), (0, .ref a0)]) hx hb dX4_lodge_6 rfl hl (by decide) rfl (fun ls hl => ?_)
  have lp_7_1 : ∀ (fu : Nat) (j : Nat) (x3 : Int32) (x2 : Int32) (x1 : Int32) (ls : Array Slot) (H : Heap) (locs : List Loc), 4 - j < fu → (x3 = nI j) → (j ≤ 4) → (x1 = (loF gg.r gg.n j).1) → (x2 = (loF gg.r gg.n j).2) → va_P D vwCl [(a0, .inr (3, [.ref a1, .ref a2, .ref a3, .ref a4, .int gg.hs, .ref a5, .ref a6, .ref a7, .int (nI gg.L), .int (nI gg.M), .int mm.pl, .ref a8, .int mm.sd])), (a1, .inl (cI, 49, .inl gg.r)), (a2, .inl (cI, 49, .inl mm.m)), (a3, .inl (cI, 49, .inl gg.im)), (a4, .inl (cI, 49, .inl mm.ws)), (a5, .inl (cI, 96, .inl gg.lt)), (a6, .inl (cI, 16, .inl gg.rw)), (a7, .inl (cI, 7, .inl gg.rf)), (a8, .inl (cI, 3, .inl mm.nb))] H → va_D A [(a0, .inr (3, [.ref a1, .ref a2, .ref a3, .ref a4, .int gg.hs, .ref a5, .ref a6, .ref a7, .int (nI gg.L), .int (nI gg.M), .int mm.pl, .ref a8, .int mm.sd])), (a1, .inl (cI, 49, .inl gg.r)), (a2, .inl (cI, 49, .inl mm.m)), (a3, .inl (cI, 49, .inl gg.im)), (a4, .inl (cI, 49, .inl mm.ws)), (a5, .inl (cI, 96, .inl gg.lt)), (a6, .inl (cI, 16, .inl gg.rw)), (a7, .inl (cI, 7, .inl gg.rf)), (a8, .inl (cI, 3, .inl mm.nb))] → va_S A s.heap H locs → lv_has ls 5 [(3, .int x3), (2, .int x2), (1, .int x1), (0, .ref a0)] → W p l e ({ frames := 5, cells := 0, slots := 0, locals := 110 }) s m [.ref a0].toArray below meth c H locs 0 0 Q (F0 m 7 ls []) := by
    intro fu
    induction fu with
    | zero =>
      intro j x3 x2 x1 ls H locs hfu
      exact absurd hfu (Nat.not_lt_zero _)
    | succ fu ih_1 =>
      intro j x3 x2 x1 ls H locs hfu hx3 hi hx1 hx2 hP hD hS hl
      refine lv_iload_n hx hb dX4_lodge_7 rfl (lv_at hl 0 rfl) ?_
      refine lv_iconst (v := 4) hx hb dX4_lodge_8 (by decide) ?_
      refine lv_icmp_ge (tgt := 75) hx hb dX4_lodge_9 (by decide) (fun c_2 => ?_) (fun c_2 => ?_)
      · skip
        have n_2 : 4 ≤ j := (ni_le (a := 4) (b := j) (rfl : (4 : Int32) = nI 4) hx3 (by decide) (by omega)).mp c_2
        have d_2 : ¬ x3 < 4 := Int32.not_lt.2 c_2
        have m_2 : ¬ j < 4 := by omega
        refine lv_iload_n hx hb dX4_lodge_75 rfl (lv_at hl 2 rfl) ?_
        exact hret 76 _ x1 (gg, mm) _ _ dX4_lodge_76 (by have e9 : j = 4 := (by omega); subst e9; simp [sp_lodge, hx1]) hP hD hS
      have n_2 : ¬ 4 ≤ j := fun q => c_2 ((ni_le (a := 4) (b := j) (rfl : (4 : Int32) = nI 4) hx3 (by decide) (by omega)).mpr q)
      have d_2 : x3 < 4 := Int32.not_le.1 c_2
      have m_2 : j < 4 := by omega
      refine lv_aload_n hx hb dX4_lodge_12 rfl (lv_at hl 3 rfl) ?_
      refine va_get (D := D) (ci := 3) (v := .ref a1) (C := RX4) (T := TX4) (N := 13) hx hb hts hi_X4 hown hK.1 hP 0 rfl rfl 0 (by decide) hk_9 (fun _ h9 => h9) rfl dX4_lodge_13 ?_
      refine lv_iload_n hx hb dX4_lodge_16 rfl (lv_at hl 0 rfl) ?_
      refine xc_Si (As := [.ref a1, .int x3]) (rest := []) ⟨hx, hb, hml, hown, hts⟩ (kX4_nestIn l D cI a1 gg.r gg.n hI x3) (va_cwS 2 hts gX4_lodge_X4_nestIn rfl rfl rfl hs_X4_nestIn ⟨Nat.le_of_ble_eq_true rfl, Nat.le_of_ble_eq_true rfl⟩) hK hP [1] rfl rfl hl.1 rfl (Nat.le_of_ble_eq_true rfl) dX4_lodge_17 ⟨Nat.zero_le _, Nat.zero_le _⟩ (fun r_3 hr_3 => ?_)
      refine lv_istore (lv' := [(4, .int r_3), (3, .int x3), (2, .int x2), (1, .int x1), (0, .ref a0)]) hx hb dX4_lodge_20 hl (by decide) rfl (fun ls hl => ?_)
      refine lv_iload hx hb dX4_lodge_22 (lv_at hl 0 rfl) ?_
      refine lv_if_eq (tgt := 69) hx hb dX4_lodge_24 (by decide) (fun c_4 => ?_) (fun c_4 => ?_)
      · skip
        obtain ⟨x_5, ex_5⟩ : ∃ z : Int32, z = x3 + 1 := ⟨_, rfl⟩
        refine lv_iinc (v := x_5) (lv' := [(3, .int x_5), (4, .int r_3), (2, .int x2), (1, .int x1), (0, .ref a0)]) hx hb dX4_lodge_69 hl (k := 1) rfl (by rw [ex_5]; rfl) (by decide) rfl (fun ls hl => ?_)
        refine lv_goto (tgt := 7) hx hb dX4_lodge_72 (by decide) ?_
        exact ih_1 (j + 1) x_5 x2 x1 _ _ _ (by omega) (ni_add (a := j) (b := 1) ex_5 hx3 (rfl : (1 : Int32) = nI 1)) (by omega) (by rw [loF]; simp only [← hx3, ← hx1, ← hx2]; first | (simp only [not_true_eq_false, not_false_eq_true, false_and, and_false, true_and, and_true, or_true, true_or, or_false, false_or, if_true, if_false, Bool.false_eq_true, Bool.true_eq_false, reduceCtorEq, and_self, or_self, ← hx3, ← hx1, ← hx2, ← hr_3, ← ex_5, c_2, c_4, n_2, d_2, m_2]; done) | (simp only [not_true_eq_false, not_false_eq_true, false_and, and_false, true_and, and_true, or_true, true_or, or_false, false_or, if_true, if_false, Bool.false_eq_true, Bool.true_eq_false, reduceCtorEq, and_self, or_self, ← hx3, ← hx1, ← hx2, ← hr_3, ← ex_5, c_2, c_4, n_2, d_2, m_2]; simp only [hr_3, ex_5]; done) | (simp [← hx3, ← hx1, ← hx2, ← hr_3, ← ex_5, c_2, c_4, n_2, d_2, m_2]; done)) (by rw [loF]; simp only [← hx3, ← hx1, ← hx2]; first | (simp only [not_true_eq_false, not_false_eq_true, false_and, and_false, true_and, and_true, or_true, true_or, or_false, false_or, if_true, if_false, Bool.false_eq_true, Bool.true_eq_false, reduceCtorEq, and_self, or_self, ← hx3, ← hx1, ← hx2, ← hr_3, ← ex_5, c_2, c_4, n_2, d_2, m_2]; done) | (simp only [not_true_eq_false, not_false_eq_true, false_and, and_false, true_and, and_true, or_true, true_or, or_false, false_or, if_true, if_false, Bool.false_eq_true, Bool.true_eq_false, reduceCtorEq, and_self, or_self, ← hx3, ← hx1, ← hx2, ← hr_3, ← ex_5, c_2, c_4, n_2, d_2, m_2]; simp only [hr_3, ex_5]; done) | (simp [← hx3, ← hx1, ← hx2, ← hr_3, ← ex_5, c_2, c_4, n_2, d_2, m_2]; done)) hP hD hS (lv_sub hl [0, 2, 3, 4] rfl)
      refine lv_aload_n hx hb dX4_lodge_27 rfl (lv_at hl 4 rfl) ?_
      refine va_get (D := D) (ci := 3) (v := .ref a1) (C := RX4) (T := TX4) (N := 13) hx hb hts hi_X4 hown hK.1 hP 0 rfl rfl 0 (by decide) hk_9 (fun _ h9 => h9) rfl dX4_lodge_28 ?_
      refine lv_iload hx hb dX4_lodge_31 (lv_at hl 0 rfl) ?_
      refine xc_Si (As := [.ref a1, .int r_3]) (rest := []) ⟨hx, hb, hml, hown, hts⟩ (kX4_holdsSet l D cI a1 gg.r gg.n hI r_3) (va_cwS 2 hts gX4_lodge_X4_holdsSet rfl rfl rfl hs_X4_holdsSet ⟨Nat.le_of_ble_eq_true rfl, Nat.le_of_ble_eq_true rfl⟩) hK hP [1] rfl rfl hl.1 rfl (Nat.le_of_ble_eq_true rfl) dX4_lodge_33 ⟨Nat.zero_le _, Nat.zero_le _⟩ (fun r_6 hr_6 => ?_)
      refine lv_if_eq (tgt := 69) hx hb dX4_lodge_36 (by decide) (fun c_7 => ?_) (fun c_7 => ?_)
      · skip
        have hb_7 : hld gg.r gg.n r_3 = false := bool_f hr_6 c_7
        have hbn_7 := hb_7
        try rw [hr_3] at hb_7
        obtain ⟨x_8, ex_8⟩ : ∃ z : Int32, z = x3 + 1 := ⟨_, rfl⟩
        refine lv_iinc (v := x_8) (lv' := [(3, .int x_8), (4, .int r_3), (2, .int x2), (1, .int x1), (0, .ref a0)]) hx hb dX4_lodge_69 hl (k := 1) rfl (by rw [ex_8]; rfl) (by decide) rfl (fun ls hl => ?_)
        refine lv_goto (tgt := 7) hx hb dX4_lodge_72 (by decide) ?_
        exact ih_1 (j + 1) x_8 x2 x1 _ _ _ (by omega) (ni_add (a := j) (b := 1) ex_8 hx3 (rfl : (1 : Int32) = nI 1)) (by omega) (by rw [loF]; simp only [← hx3, ← hx1, ← hx2]; first | (simp only [not_true_eq_false, not_false_eq_true, false_and, and_false, true_and, and_true, or_true, true_or, or_false, false_or, if_true, if_false, Bool.false_eq_true, Bool.true_eq_false, reduceCtorEq, and_self, or_self, ← hx3, ← hx1, ← hx2, ← hr_3, ← ex_8, c_2, c_4, c_7, n_2, d_2, m_2, hbn_7]; done) | (simp only [not_true_eq_false, not_false_eq_true, false_and, and_false, true_and, and_true, or_true, true_or, or_false, false_or, if_true, if_false, Bool.false_eq_true, Bool.true_eq_false, reduceCtorEq, and_self, or_self, ← hx3, ← hx1, ← hx2, ← hr_3, ← ex_8, c_2, c_4, c_7, n_2, d_2, m_2, hbn_7]; simp only [hr_3, ex_8]; done) | (simp [← hx3, ← hx1, ← hx2, ← hr_3, ← ex_8, c_2, c_4, c_7, n_2, d_2, m_2, hbn_7]; done)) (by rw [loF]; simp only [← hx3, ← hx1, ← hx2]; first | (simp only [not_true_eq_false, not_false_eq_true, false_and, and_false, true_and, and_true, or_true, true_or, or_false, false_or, if_true, if_false, Bool.false_eq_true, Bool.true_eq_false, reduceCtorEq, and_self, or_self, ← hx3, ← hx1, ← hx2, ← hr_3, ← ex_8, c_2, c_4, c_7, n_2, d_2, m_2, hbn_7]; done) | (simp only [not_true_eq_false, not_false_eq_true, false_and, and_false, true_and, and_true, or_true, true_or, or_false, false_or, if_true, if_false, Bool.false_eq_true, Bool.true_eq_false, reduceCtorEq, and_self, or_self, ← hx3, ← hx1, ← hx2, ← hr_3, ← ex_8, c_2, c_4, c_7, n_2, d_2, m_2, hbn_7]; simp only [hr_3, ex_8]; done) | (simp [← hx3, ← hx1, ← hx2, ← hr_3, ← ex_8, c_2, c_4, c_7, n_2, d_2, m_2, hbn_7]; done)) hP hD hS (lv_sub hl [0, 2, 3, 4] rfl)
      have hb_7 : hld gg.r gg.n r_3 = true := bool_t hr_6 c_7
      have hbn_7 := hb_7
      try rw [hr_3] at hb_7
      refine lv_aload_n hx hb dX4_lodge_39 rfl (lv_at hl 4 rfl) ?_
      refine va_get (D := D) (ci := 3) (v := .ref a1) (C := RX4) (T := TX4) (N := 13) hx hb hts hi_X4 hown hK.1 hP 0 rfl rfl 0 (by decide) hk_9 (fun _ h9 => h9) rfl dX4_lodge_40 ?_
      refine lv_iload hx hb dX4_lodge_43 (lv_at hl 0 rfl) ?_
      refine lv_iconst (v := 1) hx hb dX4_lodge_45 (by decide) ?_
      refine xc_Si (As := [.ref a1, .int r_3, .int 1]) (rest := []) ⟨hx, hb, hml, hown, hts⟩ (kX4_sumOf l D cI a1 gg.r gg.n hI r_3 1) (va_cwS 3 hts gX4_lodge_X4_sumOf rfl rfl rfl hs_X4_sumOf ⟨Nat.le_of_ble_eq_true rfl, Nat.le_of_ble_eq_true rfl⟩) hK hP [1] rfl rfl hl.1 rfl (Nat.le_of_ble_eq_true rfl) dX4_lodge_46 ⟨Nat.zero_le _, Nat.zero_le _⟩ (fun r_9 hr_9 => ?_)
      refine lv_iload_n hx hb dX4_lodge_49 rfl (lv_at hl 2 rfl) ?_
      refine lv_icmp_gt (tgt := 56) hx hb dX4_lodge_50 (by decide) (fun c_10 => ?_) (fun c_10 => ?_)
      · skip
        have d_10 : ¬ r_9 ≤ x2 := Int32.not_le.2 c_10
        refine lv_iload_n hx hb dX4_lodge_56 rfl (lv_at hl 1 rfl) ?_
        refine lv_istore_n (lv' := [(1, .int x3), (4, .int r_3), (3, .int x3), (2, .int x2), (0, .ref a0)]) hx hb dX4_lodge_57 rfl hl (by decide) rfl (fun ls hl => ?_)
        refine lv_aload_n hx hb dX4_lodge_58 rfl (lv_at hl 4 rfl) ?_
        refine va_get (D := D) (ci := 3) (v := .ref a1) (C := RX4) (T := TX4) (N := 13) hx hb hts hi_X4 hown hK.1 hP 0 rfl rfl 0 (by decide) hk_9 (fun _ h9 => h9) rfl dX4_lodge_59 ?_
        refine lv_iload hx hb dX4_lodge_62 (lv_at hl 1 rfl) ?_
        refine lv_iconst (v := 1) hx hb dX4_lodge_64 (by decide) ?_
        refine xc_Si (As := [.ref a1, .int r_3, .int 1]) (rest := []) ⟨hx, hb, hml, hown, hts⟩ (kX4_sumOf l D cI a1 gg.r gg.n hI r_3 1) (va_cwS 3 hts gX4_lodge_X4_sumOf rfl rfl rfl hs_X4_sumOf ⟨Nat.le_of_ble_eq_true rfl, Nat.le_of_ble_eq_true rfl⟩) hK hP [1] rfl rfl hl.1 rfl (Nat.le_of_ble_eq_true rfl) dX4_lodge_65 ⟨Nat.zero_le _, Nat.zero_le _⟩ (fun r_11 hr_11 => ?_)
        refine lv_istore_n (lv' := [(2, .int r_11), (1, .int x3), (4, .int r_3), (3, .int x3), (0, .ref a0)]) hx hb dX4_lodge_68 rfl hl (by decide) rfl (fun ls hl => ?_)
        obtain ⟨x_12, ex_12⟩ : ∃ z : Int32, z = x3 + 1 := ⟨_, rfl⟩
        refine lv_iinc (v := x_12) (lv' := [(3, .int x_12), (2, .int r_11), (1, .int x3), (4, .int r_3), (0, .ref a0)]) hx hb dX4_lodge_69 hl (k := 3) rfl (by rw [ex_12]; rfl) (by decide) rfl (fun ls hl => ?_)
        refine lv_goto (tgt := 7) hx hb dX4_lodge_72 (by decide) ?_
        exact ih_1 (j + 1) x_12 r_11 x3 _ _ _ (by omega) (ni_add (a := j) (b := 1) ex_12 hx3 (rfl : (1 : Int32) = nI 1)) (by omega) (by rw [loF]; simp only [← hx3, ← hx1, ← hx2]; first | (simp only [not_true_eq_false, not_false_eq_true, false_and, and_false, true_and, and_true, or_true, true_or, or_false, false_or, if_true, if_false, Bool.false_eq_true, Bool.true_eq_false, reduceCtorEq, and_self, or_self, ← hx3, ← hx1, ← hx2, ← hr_3, ← hr_9, ← hr_11, ← ex_12, c_2, c_4, c_7, c_10, n_2, d_2, m_2, d_10, hbn_7]; done) | (simp only [not_true_eq_false, not_false_eq_true, false_and, and_false, true_and, and_true, or_true, true_or, or_false, false_or, if_true, if_false, Bool.false_eq_true, Bool.true_eq_false, reduceCtorEq, and_self, or_self, ← hx3, ← hx1, ← hx2, ← hr_3, ← hr_9, ← hr_11, ← ex_12, c_2, c_4, c_7, c_10, n_2, d_2, m_2, d_10, hbn_7]; simp only [hr_3, hr_9, hr_11, ex_12]; done) | (simp [← hx3, ← hx1, ← hx2, ← hr_3, ← hr_9, ← hr_11, ← ex_12, c_2, c_4, c_7, c_10, n_2, d_2, m_2, d_10, hbn_7]; done)) (by rw [loF]; simp only [← hx3, ← hx1, ← hx2]; first | (simp only [not_true_eq_false, not_false_eq_true, false_and, and_false, true_and, and_true, or_true, true_or, or_false, false_or, if_true, if_false, Bool.false_eq_true, Bool.true_eq_false, reduceCtorEq, and_self, or_self, ← hx3, ← hx1, ← hx2, ← hr_3, ← hr_9, ← hr_11, ← ex_12, c_2, c_4, c_7, c_10, n_2, d_2, m_2, d_10, hbn_7]; done) | (simp only [not_true_eq_false, not_false_eq_true, false_and, and_false, true_and, and_true, or_true, true_or, or_false, false_or, if_true, if_false, Bool.false_eq_true, Bool.true_eq_false, reduceCtorEq, and_self, or_self, ← hx3, ← hx1, ← hx2, ← hr_3, ← hr_9, ← hr_11, ← ex_12, c_2, c_4, c_7, c_10, n_2, d_2, m_2, d_10, hbn_7]; simp only [hr_3, hr_9, hr_11, ex_12]; done) | (simp [← hx3, ← hx1, ← hx2, ← hr_3, ← hr_9, ← hr_11, ← ex_12, c_2, c_4, c_7, c_10, n_2, d_2, m_2, d_10, hbn_7]; done)) hP hD hS (lv_sub hl [0, 1, 2, 4] rfl)
      have d_10 : r_9 ≤ x2 := Int32.not_lt.1 c_10
      refine lv_goto (tgt := 69) hx hb dX4_lodge_53 (by decide) ?_
      obtain ⟨x_13, ex_13⟩ : ∃ z : Int32, z = x3 + 1 := ⟨_, rfl⟩
      refine lv_iinc (v := x_13) (lv' := [(3, .int x_13), (4, .int r_3), (2, .int x2), (1, .int x1), (0, .ref a0)]) hx hb dX4_lodge_69 hl (k := 1) rfl (by rw [ex_13]; rfl) (by decide) rfl (fun ls hl => ?_)
      refine lv_goto (tgt := 7) hx hb dX4_lodge_72 (by decide) ?_
      exact ih_1 (j + 1) x_13 x2 x1 _ _ _ (by omega) (ni_add (a := j) (b := 1) ex_13 hx3 (rfl : (1 : Int32) = nI 1)) (by omega) (by rw [loF]; simp only [← hx3, ← hx1, ← hx2]; first | (simp only [not_true_eq_false, not_false_eq_true, false_and, and_false, true_and, and_true, or_true, true_or, or_false, false_or, if_true, if_false, Bool.false_eq_true, Bool.true_eq_false, reduceCtorEq, and_self, or_self, ← hx3, ← hx1, ← hx2, ← hr_3, ← hr_9, ← ex_13, c_2, c_4, c_7, c_10, n_2, d_2, m_2, d_10, hbn_7]; done) | (simp only [not_true_eq_false, not_false_eq_true, false_and, and_false, true_and, and_true, or_true, true_or, or_false, false_or, if_true, if_false, Bool.false_eq_true, Bool.true_eq_false, reduceCtorEq, and_self, or_self, ← hx3, ← hx1, ← hx2, ← hr_3, ← hr_9, ← ex_13, c_2, c_4, c_7, c_10, n_2, d_2, m_2, d_10, hbn_7]; simp only [hr_3, hr_9, ex_13]; done) | (simp [← hx3, ← hx1, ← hx2, ← hr_3, ← hr_9, ← ex_13, c_2, c_4, c_7, c_10, n_2, d_2, m_2, d_10, hbn_7]; done)) (by rw [loF]; simp only [← hx3, ← hx1, ← hx2]; first | (simp only [not_true_eq_false, not_false_eq_true, false_and, and_false, true_and, and_true, or_true, true_or, or_false, false_or, if_true, if_false, Bool.false_eq_true, Bool.true_eq_false, reduceCtorEq, and_self, or_self, ← hx3, ← hx1, ← hx2, ← hr_3, ← hr_9, ← ex_13, c_2, c_4, c_7, c_10, n_2, d_2, m_2, d_10, hbn_7]; done) | (simp only [not_true_eq_false, not_false_eq_true, false_and, and_false, true_and, and_true, or_true, true_or, or_false, false_or, if_true, if_false, Bool.false_eq_true, Bool.true_eq_false, reduceCtorEq, and_self, or_self, ← hx3, ← hx1, ← hx2, ← hr_3, ← hr_9, ← ex_13, c_2, c_4, c_7, c_10, n_2, d_2, m_2, d_10, hbn_7]; simp only [hr_3, hr_9, ex_13]; done) | (simp [← hx3, ← hx1, ← hx2, ← hr_3, ← hr_9, ← ex_13, c_2, c_4, c_7, c_10, n_2, d_2, m_2, d_10, hbn_7]; done)) hP hD hS (lv_sub hl [0, 2, 3, 4] rfl)
  exact lp_7_1 ((4 - 0) + 1) 0 0 (-1) (-9) _ _ _ (by omega) (rfl : (0 : Int32) = nI 0) (by omega) rfl rfl hP hD hS (lv_sub hl [0, 1, 2, 3] rfl)

set_option maxHeartbeats 4000000 in
set_option maxRecDepth 100000 in
theorem kX4_fullest (l : Launch) (D : va_G) (cI : ClassId) (sz : Nat) (a0 a1 a2 a3 a4 a5 a6 a7 a8 : Nat) (gg : GG) (mm : MS) (hG : Good gg) : Met l yX4_fullest wsX4_fullest ({ frames := 3, cells := 0, slots := 0, locals := 66 }) (PRW D cI [.ref a0] [(a0, .inr (3, [.ref a1, .ref a2, .ref a3, .ref a4, .int gg.hs, .ref a5, .ref a6, .ref a7, .int (nI gg.L), .int (nI gg.M), .int mm.pl, .ref a8, .int mm.sd])), (a1, .inl (cI, 49, .inl gg.r)), (a2, .inl (cI, 49, .inl mm.m)), (a3, .inl (cI, 49, .inl gg.im)), (a4, .inl (cI, 49, .inl mm.ws)), (a5, .inl (cI, 96, .inl gg.lt)), (a6, .inl (cI, 16, .inl gg.rw)), (a7, .inl (cI, 7, .inl gg.rf)), (a8, .inl (cI, 3, .inl mm.nb))] sz) (va_Qi (S := GG × MS) (fun v u => (v, u.1) = sp_fullest gg) (BRW D [(a0, .inr (3, [.ref a1, .ref a2, .ref a3, .ref a4, .int gg.hs, .ref a5, .ref a6, .ref a7, .int (nI gg.L), .int (nI gg.M), .int mm.pl, .ref a8, .int mm.sd])), (a1, .inl (cI, 49, .inl gg.r)), (a2, .inl (cI, 49, .inl mm.m)), (a3, .inl (cI, 49, .inl gg.im)), (a4, .inl (cI, 49, .inl mm.ws)), (a5, .inl (cI, 96, .inl gg.lt)), (a6, .inl (cI, 16, .inl gg.rw)), (a7, .inl (cI, 7, .inl gg.rf)), (a8, .inl (cI, 3, .inl mm.nb))] sz (fun u => [(a0, .inr (3, [.ref a1, .ref a2, .ref a3, .ref a4, .int u.1.hs, .ref a5, .ref a6, .ref a7, .int (nI u.1.L), .int (nI u.1.M), .int u.2.pl, .ref a8, .int u.2.sd])), (a1, .inl (cI, 49, .inl u.1.r)), (a2, .inl (cI, 49, .inl u.2.m)), (a3, .inl (cI, 49, .inl u.1.im)), (a4, .inl (cI, 49, .inl u.2.ws)), (a5, .inl (cI, 96, .inl u.1.lt)), (a6, .inl (cI, 16, .inl u.1.rw)), (a7, .inl (cI, 7, .inl u.1.rf)), (a8, .inl (cI, 3, .inl u.2.nb))])) (va_A [(a0, .inr (3, [.ref a1, .ref a2, .ref a3, .ref a4, .int gg.hs, .ref a5, .ref a6, .ref a7, .int (nI gg.L), .int (nI gg.M), .int mm.pl, .ref a8, .int mm.sd])), (a1, .inl (cI, 49, .inl gg.r)), (a2, .inl (cI, 49, .inl mm.m)), (a3, .inl (cI, 49, .inl gg.im)), (a4, .inl (cI, 49, .inl mm.ws)), (a5, .inl (cI, 96, .inl gg.lt)), (a6, .inl (cI, 16, .inl gg.rw)), (a7, .inl (cI, 7, .inl gg.rf)), (a8, .inl (cI, 3, .inl mm.nb))] sz)) 0 0 (va_A [(a0, .inr (3, [.ref a1, .ref a2, .ref a3, .ref a4, .int gg.hs, .ref a5, .ref a6, .ref a7, .int (nI gg.L), .int (nI gg.M), .int mm.pl, .ref a8, .int mm.sd])), (a1, .inl (cI, 49, .inl gg.r)), (a2, .inl (cI, 49, .inl mm.m)), (a3, .inl (cI, 49, .inl gg.im)), (a4, .inl (cI, 49, .inl mm.ws)), (a5, .inl (cI, 96, .inl gg.lt)), (a6, .inl (cI, 16, .inl gg.rw)), (a7, .inl (cI, 7, .inl gg.rf)), (a8, .inl (cI, 3, .inl mm.nb))] sz) := by
  refine st_rwi (cc := cX4_fullest) (maxL := 4) (rt := .int) (by decide) rfl (Nat.le_of_ble_eq_true rfl) (fun _ _ _ => rfl) ?_
  intro p e s m below meth c Q ls A hx hb hml hts hown hP hK hD hA hS hl hret
  replace hown : s.vm.findClass RX4 = some m.cls := hown
  replace hl : lv_has ls 4 [(0, .ref a0)] := hl
  obtain ⟨H, hH⟩ : ∃ z, z = s.heap := ⟨_, rfl⟩
  obtain ⟨locs, hlo⟩ : ∃ z : List Loc, z = [] := ⟨_, rfl⟩
  replace hP : va_P D vwCl [(a0, .inr (3, [.ref a1, .ref a2, .ref a3, .ref a4, .int gg.hs, .ref a5, .ref a6, .ref a7, .int (nI gg.L), .int (nI gg.M), .int mm.pl, .ref a8, .int mm.sd])), (a1, .inl (cI, 49, .inl gg.r)), (a2, .inl (cI, 49, .inl mm.m)), (a3, .inl (cI, 49, .inl gg.im)), (a4, .inl (cI, 49, .inl mm.ws)), (a5, .inl (cI, 96, .inl gg.lt)), (a6, .inl (cI, 16, .inl gg.rw)), (a7, .inl (cI, 7, .inl gg.rf)), (a8, .inl (cI, 3, .inl mm.nb))] H := by rw [hH]; exact hP
  replace hS : va_S A s.heap H locs := by rw [hH, hlo]; exact hS
  show W p l e ({ frames := 3, cells := 0, slots := 0, locals := 66 }) s m [.ref a0].toArray below meth c s.heap [] 0 0 Q (F0 m 0 ls [])
  rw [← hlo]
  suffices hgo : W p l e ({ frames := 3, cells := 0, slots := 0, locals := 66 }) s m [.ref a0].toArray below meth c H locs 0 0 Q (F0 m 0 ls []) by rw [hH] at hgo; exact hgo
  clear hH hlo
  have hi_X4 : ∀ w ∈ wsX40, w ∈ wsX4_fullest := fun w h => List.mem_cons_of_mem _ (List.mem_append_right _ (h))
  have hk_9 := hts (.fieldLink RX4 9 "NestsOfTalkModel" "s" "[I") (List.mem_of_getElem? (i := 1) rfl)
  have hI := hG.inv
  have hn9 := hI.le
  have hL96 := hG.L96
  have hM16 := hG.M16
  refine lv_bipush (v := (-9)) hx hb dX4_fullest_0 (by decide) ?_
  refine lv_istore_n (lv' := [(1, .int (-9)), (0, .ref a0)]) hx hb dX4_fullest_2 rfl hl (by decide) rfl (fun ls hl => ?_)
  refine lv_iconst (v := 0) hx hb dX4_fullest_3 (by decide) ?_
  refine lv_istore_n (lv' := [(2, .int 0), (1, .int (-9)), (0, .ref a0)]) hx hb dX4_fullest_4 rfl hl (by decide) rfl (fun ls hl => ?_)
  refine lv_iconst (v := 0) hx hb dX4_fullest_5 (by decide) ?_
  refine lv_istore_n (lv' := [(3, .int 0), (2, .int 0), (1, .int (-9)), (0, .ref a0)]) hx hb dX4_fullest_6 rfl hl (by decide) rfl (fun ls hl => ?_)
  have lp_7_1 : ∀ (fu : Nat) (j : Nat) (x3 : Int32) (x2 : Int32) (x1 : Int32) (ls : Array Slot) (H : Heap) (locs : List Loc), 4 - j < fu → (x3 = nI j) → (j ≤ 4) → (x1 = (fuF gg.r gg.n j).1) → (x2 = (fuF gg.r gg.n j).2) → va_P D vwCl [(a0, .inr (3, [.ref a1, .ref a2, .ref a3, .ref a4, .int gg.hs, .ref a5, .ref a6, .ref a7, .int (nI gg.L), .int (nI gg.M), .int mm.pl, .ref a8, .int mm.sd])), (a1, .inl (cI, 49, .inl gg.r)), (a2, .inl (cI, 49, .inl mm.m)), (a3, .inl (cI, 49, .inl gg.im)), (a4, .inl (cI, 49, .inl mm.ws)), (a5, .inl (cI, 96, .inl gg.lt)), (a6, .inl (cI, 16, .inl gg.rw)), (a7, .inl (cI, 7, .inl gg.rf)), (a8, .inl (cI, 3, .inl mm.nb))] H → va_D A [(a0, .inr (3, [.ref a1, .ref a2, .ref a3, .ref a4, .int gg.hs, .ref a5, .ref a6, .ref a7, .int (nI gg.L), .int (nI gg.M), .int mm.pl, .ref a8, .int mm.sd])), (a1, .inl (cI, 49, .inl gg.r)), (a2, .inl (cI, 49, .inl mm.m)), (a3, .inl (cI, 49, .inl gg.im)), (a4, .inl (cI, 49, .inl mm.ws)), (a5, .inl (cI, 96, .inl gg.lt)), (a6, .inl (cI, 16, .inl gg.rw)), (a7, .inl (cI, 7, .inl gg.rf)), (a8, .inl (cI, 3, .inl mm.nb))] → va_S A s.heap H locs → lv_has ls 4 [(3, .int x3), (2, .int x2), (1, .int x1), (0, .ref a0)] → W p l e ({ frames := 3, cells := 0, slots := 0, locals := 66 }) s m [.ref a0].toArray below meth c H locs 0 0 Q (F0 m 7 ls []) := by
    intro fu
    induction fu with
    | zero =>
      intro j x3 x2 x1 ls H locs hfu
      exact absurd hfu (Nat.not_lt_zero _)
    | succ fu ih_1 =>
      intro j x3 x2 x1 ls H locs hfu hx3 hi hx1 hx2 hP hD hS hl
      refine lv_iload_n hx hb dX4_fullest_7 rfl (lv_at hl 0 rfl) ?_
      refine lv_iconst (v := 4) hx hb dX4_fullest_8 (by decide) ?_
      refine lv_icmp_ge (tgt := 50) hx hb dX4_fullest_9 (by decide) (fun c_2 => ?_) (fun c_2 => ?_)
      · skip
        have n_2 : 4 ≤ j := (ni_le (a := 4) (b := j) (rfl : (4 : Int32) = nI 4) hx3 (by decide) (by omega)).mp c_2
        have d_2 : ¬ x3 < 4 := Int32.not_lt.2 c_2
        have m_2 : ¬ j < 4 := by omega
        refine lv_iload_n hx hb dX4_fullest_50 rfl (lv_at hl 2 rfl) ?_
        exact hret 51 _ x1 (gg, mm) _ _ dX4_fullest_51 (by have e9 : j = 4 := (by omega); subst e9; simp [sp_fullest, hx1]) hP hD hS
      have n_2 : ¬ 4 ≤ j := fun q => c_2 ((ni_le (a := 4) (b := j) (rfl : (4 : Int32) = nI 4) hx3 (by decide) (by omega)).mpr q)
      have d_2 : x3 < 4 := Int32.not_le.1 c_2
      have m_2 : j < 4 := by omega
      refine lv_aload_n hx hb dX4_fullest_12 rfl (lv_at hl 3 rfl) ?_
      refine va_get (D := D) (ci := 3) (v := .ref a1) (C := RX4) (T := TX4) (N := 13) hx hb hts hi_X4 hown hK.1 hP 0 rfl rfl 0 (by decide) hk_9 (fun _ h9 => h9) rfl dX4_fullest_13 ?_
      refine lv_iload_n hx hb dX4_fullest_16 rfl (lv_at hl 0 rfl) ?_
      refine xc_Si (As := [.ref a1, .int x3]) (rest := []) ⟨hx, hb, hml, hown, hts⟩ (kX4_nestIn l D cI a1 gg.r gg.n hI x3) (va_cwS 2 hts gX4_fullest_X4_nestIn rfl rfl rfl hs_X4_nestIn ⟨Nat.le_of_ble_eq_true rfl, Nat.le_of_ble_eq_true rfl⟩) hK hP [1] rfl rfl hl.1 rfl (Nat.le_of_ble_eq_true rfl) dX4_fullest_17 ⟨Nat.zero_le _, Nat.zero_le _⟩ (fun r_3 hr_3 => ?_)
      refine xc_Si (As := [.int r_3]) (rest := []) ⟨hx, hb, hml, hown, hts⟩ (kX4_bits l D cI r_3) (va_cwS 1 hts gX4_fullest_X4_bits rfl rfl rfl hs_X4_bits ⟨Nat.le_of_ble_eq_true rfl, Nat.le_of_ble_eq_true rfl⟩) hK hP [] rfl rfl hl.1 rfl (Nat.le_of_ble_eq_true rfl) dX4_fullest_20 ⟨Nat.zero_le _, Nat.zero_le _⟩ (fun r_4 hr_4 => ?_)
      have hcl_4 := cntN_le r_3 10
      refine lv_iload_n hx hb dX4_fullest_23 rfl (lv_at hl 1 rfl) ?_
      refine lv_icmp_gt (tgt := 30) hx hb dX4_fullest_24 (by decide) (fun c_5 => ?_) (fun c_5 => ?_)
      · skip
        have d_5 : ¬ r_4 ≤ x2 := Int32.not_le.2 c_5
        refine lv_iload_n hx hb dX4_fullest_30 rfl (lv_at hl 0 rfl) ?_
        refine lv_istore_n (lv' := [(1, .int x3), (3, .int x3), (2, .int x2), (0, .ref a0)]) hx hb dX4_fullest_31 rfl hl (by decide) rfl (fun ls hl => ?_)
        refine lv_aload_n hx hb dX4_fullest_32 rfl (lv_at hl 3 rfl) ?_
        refine va_get (D := D) (ci := 3) (v := .ref a1) (C := RX4) (T := TX4) (N := 13) hx hb hts hi_X4 hown hK.1 hP 0 rfl rfl 0 (by decide) hk_9 (fun _ h9 => h9) rfl dX4_fullest_33 ?_
        refine lv_iload_n hx hb dX4_fullest_36 rfl (lv_at hl 1 rfl) ?_
        refine xc_Si (As := [.ref a1, .int x3]) (rest := []) ⟨hx, hb, hml, hown, hts⟩ (kX4_nestIn l D cI a1 gg.r gg.n hI x3) (va_cwS 2 hts gX4_fullest_X4_nestIn rfl rfl rfl hs_X4_nestIn ⟨Nat.le_of_ble_eq_true rfl, Nat.le_of_ble_eq_true rfl⟩) hK hP [1] rfl rfl hl.1 rfl (Nat.le_of_ble_eq_true rfl) dX4_fullest_37 ⟨Nat.zero_le _, Nat.zero_le _⟩ (fun r_6 hr_6 => ?_)
        refine xc_Si (As := [.int r_6]) (rest := []) ⟨hx, hb, hml, hown, hts⟩ (kX4_bits l D cI r_6) (va_cwS 1 hts gX4_fullest_X4_bits rfl rfl rfl hs_X4_bits ⟨Nat.le_of_ble_eq_true rfl, Nat.le_of_ble_eq_true rfl⟩) hK hP [] rfl rfl hl.1 rfl (Nat.le_of_ble_eq_true rfl) dX4_fullest_40 ⟨Nat.zero_le _, Nat.zero_le _⟩ (fun r_7 hr_7 => ?_)
        have hcl_7 := cntN_le r_6 10
        refine lv_istore_n (lv' := [(2, .int r_7), (1, .int x3), (3, .int x3), (0, .ref a0)]) hx hb dX4_fullest_43 rfl hl (by decide) rfl (fun ls hl => ?_)
        obtain ⟨x_8, ex_8⟩ : ∃ z : Int32, z = x3 + 1 := ⟨_, rfl⟩
        refine lv_iinc (v := x_8) (lv' := [(3, .int x_8), (2, .int r_7), (1, .int x3), (0, .ref a0)]) hx hb dX4_fullest_44 hl (k := 2) rfl (by rw [ex_8]; rfl) (by decide) rfl (fun ls hl => ?_)
        refine lv_goto (tgt := 7) hx hb dX4_fullest_47 (by decide) ?_
        exact ih_1 (j + 1) x_8 r_7 x3 _ _ _ (by omega) (ni_add (a := j) (b := 1) ex_8 hx3 (rfl : (1 : Int32) = nI 1)) (by omega) (by rw [fuF]; simp only [← hx3, ← hx1, ← hx2]; first | (simp only [not_true_eq_false, not_false_eq_true, false_and, and_false, true_and, and_true, or_true, true_or, or_false, false_or, if_true, if_false, Bool.false_eq_true, Bool.true_eq_false, reduceCtorEq, and_self, or_self, ← hx3, ← hx1, ← hx2, ← hr_3, ← hr_4, ← hr_6, ← hr_7, ← ex_8, c_2, c_5, n_2, d_2, m_2, d_5]; done) | (simp only [not_true_eq_false, not_false_eq_true, false_and, and_false, true_and, and_true, or_true, true_or, or_false, false_or, if_true, if_false, Bool.false_eq_true, Bool.true_eq_false, reduceCtorEq, and_self, or_self, ← hx3, ← hx1, ← hx2, ← hr_3, ← hr_4, ← hr_6, ← hr_7, ← ex_8, c_2, c_5, n_2, d_2, m_2, d_5]; simp only [hr_3, hr_4, hr_6, hr_7, ex_8]; done) | (simp [← hx3, ← hx1, ← hx2, ← hr_3, ← hr_4, ← hr_6, ← hr_7, ← ex_8, c_2, c_5, n_2, d_2, m_2, d_5]; done)) (by rw [fuF]; simp only [← hx3, ← hx1, ← hx2]; first | (simp only [not_true_eq_false, not_false_eq_true, false_and, and_false, true_and, and_true, or_true, true_or, or_false, false_or, if_true, if_false, Bool.false_eq_true, Bool.true_eq_false, reduceCtorEq, and_self, or_self, ← hx3, ← hx1, ← hx2, ← hr_3, ← hr_4, ← hr_6, ← hr_7, ← ex_8, c_2, c_5, n_2, d_2, m_2, d_5]; done) | (simp only [not_true_eq_false, not_false_eq_true, false_and, and_false, true_and, and_true, or_true, true_or, or_false, false_or, if_true, if_false, Bool.false_eq_true, Bool.true_eq_false, reduceCtorEq, and_self, or_self, ← hx3, ← hx1, ← hx2, ← hr_3, ← hr_4, ← hr_6, ← hr_7, ← ex_8, c_2, c_5, n_2, d_2, m_2, d_5]; simp only [hr_3, hr_4, hr_6, hr_7, ex_8]; done) | (simp [← hx3, ← hx1, ← hx2, ← hr_3, ← hr_4, ← hr_6, ← hr_7, ← ex_8, c_2, c_5, n_2, d_2, m_2, d_5]; done)) hP hD hS (lv_sub hl [0, 1, 2, 3] rfl)
      have d_5 : r_4 ≤ x2 := Int32.not_lt.1 c_5
      refine lv_goto (tgt := 44) hx hb dX4_fullest_27 (by decide) ?_
      obtain ⟨x_9, ex_9⟩ : ∃ z : Int32, z = x3 + 1 := ⟨_, rfl⟩
      refine lv_iinc (v := x_9) (lv' := [(3, .int x_9), (2, .int x2), (1, .int x1), (0, .ref a0)]) hx hb dX4_fullest_44 hl (k := 0) rfl (by rw [ex_9]; rfl) (by decide) rfl (fun ls hl => ?_)
      refine lv_goto (tgt := 7) hx hb dX4_fullest_47 (by decide) ?_
      exact ih_1 (j + 1) x_9 x2 x1 _ _ _ (by omega) (ni_add (a := j) (b := 1) ex_9 hx3 (rfl : (1 : Int32) = nI 1)) (by omega) (by rw [fuF]; simp only [← hx3, ← hx1, ← hx2]; first | (simp only [not_true_eq_false, not_false_eq_true, false_and, and_false, true_and, and_true, or_true, true_or, or_false, false_or, if_true, if_false, Bool.false_eq_true, Bool.true_eq_false, reduceCtorEq, and_self, or_self, ← hx3, ← hx1, ← hx2, ← hr_3, ← hr_4, ← ex_9, c_2, c_5, n_2, d_2, m_2, d_5]; done) | (simp only [not_true_eq_false, not_false_eq_true, false_and, and_false, true_and, and_true, or_true, true_or, or_false, false_or, if_true, if_false, Bool.false_eq_true, Bool.true_eq_false, reduceCtorEq, and_self, or_self, ← hx3, ← hx1, ← hx2, ← hr_3, ← hr_4, ← ex_9, c_2, c_5, n_2, d_2, m_2, d_5]; simp only [hr_3, hr_4, ex_9]; done) | (simp [← hx3, ← hx1, ← hx2, ← hr_3, ← hr_4, ← ex_9, c_2, c_5, n_2, d_2, m_2, d_5]; done)) (by rw [fuF]; simp only [← hx3, ← hx1, ← hx2]; first | (simp only [not_true_eq_false, not_false_eq_true, false_and, and_false, true_and, and_true, or_true, true_or, or_false, false_or, if_true, if_false, Bool.false_eq_true, Bool.true_eq_false, reduceCtorEq, and_self, or_self, ← hx3, ← hx1, ← hx2, ← hr_3, ← hr_4, ← ex_9, c_2, c_5, n_2, d_2, m_2, d_5]; done) | (simp only [not_true_eq_false, not_false_eq_true, false_and, and_false, true_and, and_true, or_true, true_or, or_false, false_or, if_true, if_false, Bool.false_eq_true, Bool.true_eq_false, reduceCtorEq, and_self, or_self, ← hx3, ← hx1, ← hx2, ← hr_3, ← hr_4, ← ex_9, c_2, c_5, n_2, d_2, m_2, d_5]; simp only [hr_3, hr_4, ex_9]; done) | (simp [← hx3, ← hx1, ← hx2, ← hr_3, ← hr_4, ← ex_9, c_2, c_5, n_2, d_2, m_2, d_5]; done)) hP hD hS (lv_sub hl [0, 1, 2, 3] rfl)
  exact lp_7_1 ((4 - 0) + 1) 0 0 0 (-9) _ _ _ (by omega) (rfl : (0 : Int32) = nI 0) (by omega) rfl rfl hP hD hS (lv_sub hl [0, 1, 2, 3] rfl)

set_option maxHeartbeats 4000000 in
set_option maxRecDepth 100000 in
theorem kX4_talk (l : Launch) (D : va_G) (cI : ClassId) (sz : Nat) (a0 a1 a2 a3 a4 a5 a6 a7 a8 : Nat) (gg : GG) (mm : MS) (hG : Good gg) : Met l yX4_talk wsX4_talk ({ frames := 2, cells := 0, slots := 0, locals := 43 }) (PRW D cI [.ref a0] [(a0, .inr (3, [.ref a1, .ref a2, .ref a3, .ref a4, .int gg.hs, .ref a5, .ref a6, .ref a7, .int (nI gg.L), .int (nI gg.M), .int mm.pl, .ref a8, .int mm.sd])), (a1, .inl (cI, 49, .inl gg.r)), (a2, .inl (cI, 49, .inl mm.m)), (a3, .inl (cI, 49, .inl gg.im)), (a4, .inl (cI, 49, .inl mm.ws)), (a5, .inl (cI, 96, .inl gg.lt)), (a6, .inl (cI, 16, .inl gg.rw)), (a7, .inl (cI, 7, .inl gg.rf)), (a8, .inl (cI, 3, .inl mm.nb))] sz) (va_Qi (S := GG × MS) (fun v u => (v, u.1) = sp_talk gg) (BRW D [(a0, .inr (3, [.ref a1, .ref a2, .ref a3, .ref a4, .int gg.hs, .ref a5, .ref a6, .ref a7, .int (nI gg.L), .int (nI gg.M), .int mm.pl, .ref a8, .int mm.sd])), (a1, .inl (cI, 49, .inl gg.r)), (a2, .inl (cI, 49, .inl mm.m)), (a3, .inl (cI, 49, .inl gg.im)), (a4, .inl (cI, 49, .inl mm.ws)), (a5, .inl (cI, 96, .inl gg.lt)), (a6, .inl (cI, 16, .inl gg.rw)), (a7, .inl (cI, 7, .inl gg.rf)), (a8, .inl (cI, 3, .inl mm.nb))] sz (fun u => [(a0, .inr (3, [.ref a1, .ref a2, .ref a3, .ref a4, .int u.1.hs, .ref a5, .ref a6, .ref a7, .int (nI u.1.L), .int (nI u.1.M), .int u.2.pl, .ref a8, .int u.2.sd])), (a1, .inl (cI, 49, .inl u.1.r)), (a2, .inl (cI, 49, .inl u.2.m)), (a3, .inl (cI, 49, .inl u.1.im)), (a4, .inl (cI, 49, .inl u.2.ws)), (a5, .inl (cI, 96, .inl u.1.lt)), (a6, .inl (cI, 16, .inl u.1.rw)), (a7, .inl (cI, 7, .inl u.1.rf)), (a8, .inl (cI, 3, .inl u.2.nb))])) (va_A [(a0, .inr (3, [.ref a1, .ref a2, .ref a3, .ref a4, .int gg.hs, .ref a5, .ref a6, .ref a7, .int (nI gg.L), .int (nI gg.M), .int mm.pl, .ref a8, .int mm.sd])), (a1, .inl (cI, 49, .inl gg.r)), (a2, .inl (cI, 49, .inl mm.m)), (a3, .inl (cI, 49, .inl gg.im)), (a4, .inl (cI, 49, .inl mm.ws)), (a5, .inl (cI, 96, .inl gg.lt)), (a6, .inl (cI, 16, .inl gg.rw)), (a7, .inl (cI, 7, .inl gg.rf)), (a8, .inl (cI, 3, .inl mm.nb))] sz)) 0 0 (va_A [(a0, .inr (3, [.ref a1, .ref a2, .ref a3, .ref a4, .int gg.hs, .ref a5, .ref a6, .ref a7, .int (nI gg.L), .int (nI gg.M), .int mm.pl, .ref a8, .int mm.sd])), (a1, .inl (cI, 49, .inl gg.r)), (a2, .inl (cI, 49, .inl mm.m)), (a3, .inl (cI, 49, .inl gg.im)), (a4, .inl (cI, 49, .inl mm.ws)), (a5, .inl (cI, 96, .inl gg.lt)), (a6, .inl (cI, 16, .inl gg.rw)), (a7, .inl (cI, 7, .inl gg.rf)), (a8, .inl (cI, 3, .inl mm.nb))] sz) := by
  refine st_rwi (cc := cX4_talk) (maxL := 1) (rt := .int) (by decide) rfl (Nat.le_of_ble_eq_true rfl) (fun _ _ _ => rfl) ?_
  intro p e s m below meth c Q ls A hx hb hml hts hown hP hK hD hA hS hl hret
  replace hown : s.vm.findClass RX4 = some m.cls := hown
  replace hl : lv_has ls 1 [(0, .ref a0)] := hl
  obtain ⟨H, hH⟩ : ∃ z, z = s.heap := ⟨_, rfl⟩
  obtain ⟨locs, hlo⟩ : ∃ z : List Loc, z = [] := ⟨_, rfl⟩
  replace hP : va_P D vwCl [(a0, .inr (3, [.ref a1, .ref a2, .ref a3, .ref a4, .int gg.hs, .ref a5, .ref a6, .ref a7, .int (nI gg.L), .int (nI gg.M), .int mm.pl, .ref a8, .int mm.sd])), (a1, .inl (cI, 49, .inl gg.r)), (a2, .inl (cI, 49, .inl mm.m)), (a3, .inl (cI, 49, .inl gg.im)), (a4, .inl (cI, 49, .inl mm.ws)), (a5, .inl (cI, 96, .inl gg.lt)), (a6, .inl (cI, 16, .inl gg.rw)), (a7, .inl (cI, 7, .inl gg.rf)), (a8, .inl (cI, 3, .inl mm.nb))] H := by rw [hH]; exact hP
  replace hS : va_S A s.heap H locs := by rw [hH, hlo]; exact hS
  show W p l e ({ frames := 2, cells := 0, slots := 0, locals := 43 }) s m [.ref a0].toArray below meth c s.heap [] 0 0 Q (F0 m 0 ls [])
  rw [← hlo]
  suffices hgo : W p l e ({ frames := 2, cells := 0, slots := 0, locals := 43 }) s m [.ref a0].toArray below meth c H locs 0 0 Q (F0 m 0 ls []) by rw [hH] at hgo; exact hgo
  clear hH hlo
  have hi_X4 : ∀ w ∈ wsX40, w ∈ wsX4_talk := fun w h => List.mem_cons_of_mem _ (List.mem_append_right _ (h))
  have hk_9 := hts (.fieldLink RX4 9 "NestsOfTalkModel" "s" "[I") (List.mem_of_getElem? (i := 1) rfl)
  have hI := hG.inv
  have hn9 := hI.le
  have hL96 := hG.L96
  have hM16 := hG.M16
  refine lv_iconst (v := 1) hx hb dX4_talk_0 (by decide) ?_
  refine lv_aload_n hx hb dX4_talk_1 rfl (lv_at hl 0 rfl) ?_
  refine va_get (D := D) (ci := 3) (v := .ref a1) (C := RX4) (T := TX4) (N := 13) hx hb hts hi_X4 hown hK.1 hP 0 rfl rfl 0 (by decide) hk_9 (fun _ h9 => h9) rfl dX4_talk_2 ?_
  refine lv_iconst (v := 0) hx hb dX4_talk_5 (by decide) ?_
  refine xa_ld hx hb hK hP 1 rfl (j := 0) (rfl : (0 : Int32) = nI 0) (by omega) (by decide) dX4_talk_6 ?_
  refine lv_ishl hx hb dX4_talk_7 ?_
  refine lv_iconst (v := 1) hx hb dX4_talk_8 (by decide) ?_
  refine lv_isub hx hb dX4_talk_9 ?_
  refine lv_aload_n hx hb dX4_talk_10 rfl (lv_at hl 0 rfl) ?_
  refine va_get (D := D) (ci := 3) (v := .ref a1) (C := RX4) (T := TX4) (N := 13) hx hb hts hi_X4 hown hK.1 hP 0 rfl rfl 0 (by decide) hk_9 (fun _ h9 => h9) rfl dX4_talk_11 ?_
  refine xc_Si (As := [.ref a1]) (rest := [.int ((1 <<< ((gg.r 0) &&& 31)) - 1)]) ⟨hx, hb, hml, hown, hts⟩ (kX4_inNests l D cI a1 gg.r gg.n hI) (va_cwS 1 hts gX4_talk_X4_inNests rfl rfl rfl hs_X4_inNests ⟨Nat.le_of_ble_eq_true rfl, Nat.le_of_ble_eq_true rfl⟩) hK hP [1] rfl rfl hl.1 rfl (Nat.le_of_ble_eq_true rfl) dX4_talk_14 ⟨Nat.zero_le _, Nat.zero_le _⟩ (fun r_1 hr_1 => ?_)
  refine lv_iconst (v := (-1)) hx hb dX4_talk_17 (by decide) ?_
  refine lv_ixor hx hb dX4_talk_18 ?_
  refine lv_iand hx hb dX4_talk_19 ?_
  exact hret 20 _ (((1 <<< ((gg.r 0) &&& 31)) - 1) &&& (r_1 ^^^ (-1))) (gg, mm) _ _ dX4_talk_20 (by rw [hI.n0, hr_1]; rfl) hP hD hS


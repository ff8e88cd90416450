theorem hs_X4_whatWas : yX4_whatWas.cls ≠ "java/lang/invoke/MethodHandle" ∧ yX4_whatWas.cls ≠ "java/lang/invoke/VarHandle" ∧ (parseMethodDescriptor yX4_whatWas.desc).map (fun d => d.parameters.length) = some 2 := by decide +kernel
theorem hv_X4_whatWas : yX4_whatWas.cls = RX4 ∧ yX4_whatWas.cls ≠ "java/lang/invoke/MethodHandle" ∧ yX4_whatWas.cls ≠ "java/lang/invoke/VarHandle" ∧ (parseMethodDescriptor yX4_whatWas.desc).map (fun d => d.parameters.length) = some 2 := ⟨rfl, hs_X4_whatWas⟩
theorem hs_X4_judge : yX4_judge.cls ≠ "java/lang/invoke/MethodHandle" ∧ yX4_judge.cls ≠ "java/lang/invoke/VarHandle" ∧ (parseMethodDescriptor yX4_judge.desc).map (fun d => d.parameters.length) = some 0 := by decide +kernel
theorem hv_X4_judge : yX4_judge.cls = RX4 ∧ yX4_judge.cls ≠ "java/lang/invoke/MethodHandle" ∧ yX4_judge.cls ≠ "java/lang/invoke/VarHandle" ∧ (parseMethodDescriptor yX4_judge.desc).map (fun d => d.parameters.length) = some 0 := ⟨rfl, hs_X4_judge⟩
theorem hs_X4_drawn : yX4_drawn.cls ≠ "java/lang/invoke/MethodHandle" ∧ yX4_drawn.cls ≠ "java/lang/invoke/VarHandle" ∧ (parseMethodDescriptor yX4_drawn.desc).map (fun d => d.parameters.length) = some 1 := by decide +kernel
theorem hv_X4_drawn : yX4_drawn.cls = RX4 ∧ yX4_drawn.cls ≠ "java/lang/invoke/MethodHandle" ∧ yX4_drawn.cls ≠ "java/lang/invoke/VarHandle" ∧ (parseMethodDescriptor yX4_drawn.desc).map (fun d => d.parameters.length) = some 1 := ⟨rfl, hs_X4_drawn⟩
theorem hs_X4_lots : yX4_lots.cls ≠ "java/lang/invoke/MethodHandle" ∧ yX4_lots.cls ≠ "java/lang/invoke/VarHandle" ∧ (parseMethodDescriptor yX4_lots.desc).map (fun d => d.parameters.length) = some 3 := by decide +kernel
theorem hv_X4_lots : yX4_lots.cls = RX4 ∧ yX4_lots.cls ≠ "java/lang/invoke/MethodHandle" ∧ yX4_lots.cls ≠ "java/lang/invoke/VarHandle" ∧ (parseMethodDescriptor yX4_lots.desc).map (fun d => d.parameters.length) = some 3 := ⟨rfl, hs_X4_lots⟩
set_option maxHeartbeats 4000000 in
set_option maxRecDepth 100000 in
theorem kX4_whatWas (l : Launch) (D : va_G) (cI : ClassId) (sz : Nat) (a0 a1 a2 a3 a4 a5 a6 a7 a8 : Nat) (gg : GG) (mm : MS) (hG : Good gg) (p0 p1 : Int32) : Met l yX4_whatWas wsX4_whatWas ({ frames := 6, cells := 0, slots := 0, locals := 132 }) (PRW D cI [.ref a0, .int p0, .int p1] [(a0, .inr (3, [.ref a1, .ref a2, .ref a3, .ref a4, .int gg.hs, .ref a5, .ref a6, .ref a7, .int (nI gg.L), .int (nI gg.M), .int mm.pl, .ref a8, .int mm.sd])), (a1, .inl (cI, 49, .inl gg.r)), (a2, .inl (cI, 49, .inl mm.m)), (a3, .inl (cI, 49, .inl gg.im)), (a4, .inl (cI, 49, .inl mm.ws)), (a5, .inl (cI, 96, .inl gg.lt)), (a6, .inl (cI, 16, .inl gg.rw)), (a7, .inl (cI, 7, .inl gg.rf)), (a8, .inl (cI, 3, .inl mm.nb))] sz) (va_Qi (S := GG × MS) (fun v u => (v, u.1) = sp_whatWas gg p0 p1) (BRW D [(a0, .inr (3, [.ref a1, .ref a2, .ref a3, .ref a4, .int gg.hs, .ref a5, .ref a6, .ref a7, .int (nI gg.L), .int (nI gg.M), .int mm.pl, .ref a8, .int mm.sd])), (a1, .inl (cI, 49, .inl gg.r)), (a2, .inl (cI, 49, .inl mm.m)), (a3, .inl (cI, 49, .inl gg.im)), (a4, .inl (cI, 49, .inl mm.ws)), (a5, .inl (cI, 96, .inl gg.lt)), (a6, .inl (cI, 16, .inl gg.rw)), (a7, .inl (cI, 7, .inl gg.rf)), (a8, .inl (cI, 3, .inl mm.nb))] sz (fun u => [(a0, .inr (3, [.ref a1, .ref a2, .ref a3, .ref a4, .int u.1.hs, .ref a5, .ref a6, .ref a7, .int (nI u.1.L), .int (nI u.1.M), .int u.2.pl, .ref a8, .int u.2.sd])), (a1, .inl (cI, 49, .inl u.1.r)), (a2, .inl (cI, 49, .inl u.2.m)), (a3, .inl (cI, 49, .inl u.1.im)), (a4, .inl (cI, 49, .inl u.2.ws)), (a5, .inl (cI, 96, .inl u.1.lt)), (a6, .inl (cI, 16, .inl u.1.rw)), (a7, .inl (cI, 7, .inl u.1.rf)), (a8, .inl (cI, 3, .inl u.2.nb))])) (va_A [(a0, .inr (3, [.ref a1, .ref a2, .ref a3, .ref a4, .int gg.hs, .ref a5, .ref a6, .ref a7, .int (nI gg.L), .int (nI gg.M), .int mm.pl, .ref a8, .int mm.sd])), (a1, .inl (cI, 49, .inl gg.r)), (a2, .inl (cI, 49, .inl mm.m)), (a3, .inl (cI, 49, .inl gg.im)), (a4, .inl (cI, 49, .inl mm.ws)), (a5, .inl (cI, 96, .inl gg.lt)), (a6, .inl (cI, 16, .inl gg.rw)), (a7, .inl (cI, 7, .inl gg.rf)), (a8, .inl (cI, 3, .inl mm.nb))] sz)) 0 0 (va_A [(a0, .inr (3, [.ref a1, .ref a2, .ref a3, .ref a4, .int gg.hs, .ref a5, .ref a6, .ref a7, .int (nI gg.L), .int (nI gg.M), .int mm.pl, .ref a8, .int mm.sd])), (a1, .inl (cI, 49, .inl gg.r)), (a2, .inl (cI, 49, .inl mm.m)), (a3, .inl (cI, 49, .inl gg.im)), (a4, .inl (cI, 49, .inl mm.ws)), (a5, .inl (cI, 96, .inl gg.lt)), (a6, .inl (cI, 16, .inl gg.rw)), (a7, .inl (cI, 7, .inl gg.rf)), (a8, .inl (cI, 3, .inl mm.nb))] sz) := by
  refine st_rwi (cc := cX4_whatWas) (maxL := 9) (rt := .int) (by decide) rfl (Nat.le_of_ble_eq_true rfl) (fun _ _ _ => rfl) ?_
  intro p e s m below meth c Q ls A hx hb hml hts hown hP hK hD hA hS hl hret
  replace hown : s.vm.findClass RX4 = some m.cls := hown
  replace hl : lv_has ls 9 [(0, .ref a0), (1, .int p0), (2, .int p1)] := hl
  obtain ⟨H, hH⟩ : ∃ z, z = s.heap := ⟨_, rfl⟩
  obtain ⟨locs, hlo⟩ : ∃ z : List Loc, z = [] := ⟨_, rfl⟩
  replace hP : va_P D vwCl [(a0, .inr (3, [.ref a1, .ref a2, .ref a3, .ref a4, .int gg.hs, .ref a5, .ref a6, .ref a7, .int (nI gg.L), .int (nI gg.M), .int mm.pl, .ref a8, .int mm.sd])), (a1, .inl (cI, 49, .inl gg.r)), (a2, .inl (cI, 49, .inl mm.m)), (a3, .inl (cI, 49, .inl gg.im)), (a4, .inl (cI, 49, .inl mm.ws)), (a5, .inl (cI, 96, .inl gg.lt)), (a6, .inl (cI, 16, .inl gg.rw)), (a7, .inl (cI, 7, .inl gg.rf)), (a8, .inl (cI, 3, .inl mm.nb))] H := by rw [hH]; exact hP
  replace hS : va_S A s.heap H locs := by rw [hH, hlo]; exact hS
  show W p l e ({ frames := 6, cells := 0, slots := 0, locals := 132 }) s m [.ref a0, .int p0, .int p1].toArray below meth c s.heap [] 0 0 Q (F0 m 0 ls [])
  rw [← hlo]
  suffices hgo : W p l e ({ frames := 6, cells := 0, slots := 0, locals := 132 }) s m [.ref a0, .int p0, .int p1].toArray below meth c H locs 0 0 Q (F0 m 0 ls []) by rw [hH] at hgo; exact hgo
  clear hH hlo
  have hi_X4 : ∀ w ∈ wsX40, w ∈ wsX4_whatWas := fun w h => List.mem_cons_of_mem _ (List.mem_append_right _ (h))
  have hk_9 := hts (.fieldLink RX4 9 "NestsOfTalkModel" "s" "[I") (List.mem_of_getElem? (i := 1) rfl)
  have hk_13 := hts (.fieldLink RX4 13 "NestsOfTalkModel" "m" "[I") (List.mem_of_getElem? (i := 2) rfl)
  have hk_186 := hts (.fieldLink RX4 186 "NestsOfTalkModel" "rowMany" "I") (List.mem_of_getElem? (i := 3) rfl)
  have hk_25 := hts (.fieldLink RX4 25 "NestsOfTalkModel" "row" "[I") (List.mem_of_getElem? (i := 4) rfl)
  have hI := hG.inv
  have hn9 := hI.le
  have hL96 := hG.L96
  have hM16 := hG.M16
  refine lv_aload_n hx hb dX4_whatWas_0 rfl (lv_at hl 0 rfl) ?_
  refine lv_iload_n hx hb dX4_whatWas_1 rfl (lv_at hl 1 rfl) ?_
  refine xc_Vi (As := [.int p0]) (rest := []) ⟨hx, hb, hml, hown, hts⟩ (kX4_isSaying l D cI a0 a1 a2 a3 a4 a5 a6 a7 a8 gg mm gg.n hI p0) (cwV 1 hts gX4_whatWas_X4_isSaying rfl rfl rfl hv_X4_isSaying ⟨Nat.le_of_ble_eq_true rfl, Nat.le_of_ble_eq_true rfl⟩) hK hP [0, 1] rfl 0 rfl rfl rfl hl.1 rfl (Nat.le_of_ble_eq_true rfl) dX4_whatWas_2 ⟨Nat.zero_le _, Nat.zero_le _⟩ (fun r_1 hr_1 => ?_)
  refine lv_if_ne (tgt := 14) hx hb dX4_whatWas_5 (by decide) (fun c_2 => ?_) (fun c_2 => ?_)
  · skip
    have hb_2 : sayB gg.n p0 = true := bool_t hr_1 c_2
    obtain ⟨t_2, ht_2, et_2⟩ := (sayB_iff (hI).le).1 hb_2
    have tn_2 : tN p0 = t_2 := by rw [et_2]; exact tN_nI (by omega)
    refine lv_iload_n hx hb dX4_whatWas_14 rfl (lv_at hl 2 rfl) ?_
    refine lv_iconst (v := 0) hx hb dX4_whatWas_15 (by decide) ?_
    refine lv_iconst (v := 1) hx hb dX4_whatWas_16 (by decide) ?_
    refine xc_Si (As := [.int p1, .int 0, .int 1]) (rest := []) ⟨hx, hb, hml, hown, hts⟩ (kX4_isIn l D cI p1 0 1) (va_cwS 3 hts gX4_whatWas_X4_isIn rfl rfl rfl hs_X4_isIn ⟨Nat.le_of_ble_eq_true rfl, Nat.le_of_ble_eq_true rfl⟩) hK hP [] rfl rfl hl.1 rfl (Nat.le_of_ble_eq_true rfl) dX4_whatWas_17 ⟨Nat.zero_le _, Nat.zero_le _⟩ (fun r_3 hr_3 => ?_)
    refine lv_if_ne (tgt := 30) hx hb dX4_whatWas_20 (by decide) (fun c_4 => ?_) (fun c_4 => ?_)
    · skip
      have hb_4 : isI p1 0 1 = true := bool_t (hr_3.trans isI_ite) c_4
      obtain ⟨i_4, il_4, iu_4, ei_4⟩ := isI_nat (a := 0) (b := 1) (rfl : (0 : Int32) = nI 0) (rfl : (1 : Int32) = nI 1) (by decide) (by omega) hb_4
      have tn_4 : tN p1 = i_4 := by rw [ei_4]; exact tN_nI (by omega)
      refine lv_aload_n hx hb dX4_whatWas_30 rfl (lv_at hl 0 rfl) ?_
      refine va_get (D := D) (ci := 3) (v := .ref a1) (C := RX4) (T := TX4) (N := 13) hx hb hts hi_X4 hown hK.1 hP 0 rfl rfl 0 (by decide) hk_9 (fun _ h9 => h9) rfl dX4_whatWas_31 ?_
      refine lv_iload_n hx hb dX4_whatWas_34 rfl (lv_at hl 1 rfl) ?_
      refine lv_iconst (v := 2) hx hb dX4_whatWas_35 (by decide) ?_
      refine xc_Si (As := [.int p0, .int 2]) (rest := [.ref a1]) ⟨hx, hb, hml, hown, hts⟩ (kX4_of l D cI p0 2 t_2 2 et_2 (rfl : (2 : Int32) = nI 2)) (va_cwS 2 hts gX4_whatWas_X4_of rfl rfl rfl hs_X4_of ⟨Nat.le_of_ble_eq_true rfl, Nat.le_of_ble_eq_true rfl⟩) hK hP [] rfl rfl hl.1 rfl (Nat.le_of_ble_eq_true rfl) dX4_whatWas_36 ⟨Nat.zero_le _, Nat.zero_le _⟩ (fun r_5 hr_5 => ?_)
      refine xa_ld hx hb hK hP 1 rfl (j := (oF t_2 2)) hr_5 (by unfold oF; omega) (by decide) dX4_whatWas_39 ?_
      refine lv_topi (fun x_6 ex_6 => ?_)
      refine lv_istore_n (lv' := [(3, .int x_6), (0, .ref a0), (1, .int p0), (2, .int p1)]) hx hb dX4_whatWas_40 rfl hl (by decide) rfl (fun ls hl => ?_)
      refine lv_iconst (v := 0) hx hb dX4_whatWas_41 (by decide) ?_
      refine lv_istore (lv' := [(4, .int 0), (3, .int x_6), (0, .ref a0), (1, .int p0), (2, .int p1)]) hx hb dX4_whatWas_42 hl (by decide) rfl (fun ls hl => ?_)
      by_cases c_0 : p1 = 0
      · have hw0 : (i_4 = 0 ∧ 6 = 6) ∨ (i_4 = 1 ∧ 6 = 10) := Or.inl ⟨(ni_eq (a := i_4) (b := 0) ei_4 rfl (by omega) (by omega)).mp c_0, rfl⟩
        refine lv_iconst (v := 0) hx hb dX4_whatWas_44 (by decide) ?_
        refine lv_istore (lv' := [(5, .int 0), (4, .int 0), (3, .int x_6), (0, .ref a0), (1, .int p0), (2, .int p1)]) hx hb dX4_whatWas_45 hl (by decide) rfl (fun ls hl => ?_)
        have lp_47_7 : ∀ (fu : Nat) (j : Nat) (x5 : Int32) (x4 : Int32) (f : RR) (ls : Array Slot) (H : Heap) (locs : List Loc), 10 - j < fu → (x5 = nI j) → (j ≤ 6) → (x4 = wwF gg.r gg.n t_2 i_4 (gg.r (oF t_2 2)) gg.rw gg.M j) → va_P D vwCl [(a0, .inr (3, [.ref a1, .ref a2, .ref a3, .ref a4, .int gg.hs, .ref a5, .ref a6, .ref a7, .int (nI gg.L), .int (nI gg.M), .int mm.pl, .ref a8, .int mm.sd])), (a1, .inl (cI, 49, .inl gg.r)), (a2, .inl (cI, 49, .inl f)), (a3, .inl (cI, 49, .inl gg.im)), (a4, .inl (cI, 49, .inl mm.ws)), (a5, .inl (cI, 96, .inl gg.lt)), (a6, .inl (cI, 16, .inl gg.rw)), (a7, .inl (cI, 7, .inl gg.rf)), (a8, .inl (cI, 3, .inl mm.nb))] H → va_D A [(a0, .inr (3, [.ref a1, .ref a2, .ref a3, .ref a4, .int gg.hs, .ref a5, .ref a6, .ref a7, .int (nI gg.L), .int (nI gg.M), .int mm.pl, .ref a8, .int mm.sd])), (a1, .inl (cI, 49, .inl gg.r)), (a2, .inl (cI, 49, .inl f)), (a3, .inl (cI, 49, .inl gg.im)), (a4, .inl (cI, 49, .inl mm.ws)), (a5, .inl (cI, 96, .inl gg.lt)), (a6, .inl (cI, 16, .inl gg.rw)), (a7, .inl (cI, 7, .inl gg.rf)), (a8, .inl (cI, 3, .inl mm.nb))] → va_S A s.heap H locs → lv_has ls 9 [(5, .int x5), (4, .int x4), (3, .int x_6), (0, .ref a0), (1, .int p0), (2, .int p1)] → W p l e ({ frames := 6, cells := 0, slots := 0, locals := 132 }) s m [.ref a0, .int p0, .int p1].toArray below meth c H locs 0 0 Q (F0 m 47 ls []) := by
          intro fu
          induction fu with
          | zero =>
            intro j x5 x4 f ls H locs hfu
            exact absurd hfu (Nat.not_lt_zero _)
          | succ fu ih_7 =>
            intro j x5 x4 f ls H locs hfu hx5 hj hx4 hP hD hS hl
            refine lv_iload hx hb dX4_whatWas_47 (lv_at hl 0 rfl) ?_
            refine lv_iload_n hx hb dX4_whatWas_49 rfl (lv_at hl 5 rfl) ?_
            refine lv_if_ne (tgt := 58) hx hb dX4_whatWas_50 (by decide) (fun c_8 => ?_) (fun c_8 => ?_)
            · skip
              exact absurd c_0 c_8
            refine lv_bipush (v := 6) hx hb dX4_whatWas_53 (by decide) ?_
            refine lv_goto (tgt := 60) hx hb dX4_whatWas_55 (by decide) ?_
            refine lv_icmp_ge (tgt := 176) hx hb dX4_whatWas_60 (by decide) (fun c_9 => ?_) (fun c_9 => ?_)
            · skip
              have n_9 : 6 ≤ j := (ni_le (a := 6) (b := j) (rfl : (6 : Int32) = nI 6) hx5 (by decide) (by omega)).mp c_9
              have d_9 : ¬ x5 < 6 := Int32.not_lt.2 c_9
              have m_9 : ¬ j < 6 := by omega
              refine lv_iload hx hb dX4_whatWas_176 (lv_at hl 1 rfl) ?_
              exact hret 178 _ x4 (gg, (f, mm.ws, mm.nb, mm.pl, mm.sd)) _ _ dX4_whatWas_178 (by have e9 : j = 6 := (by omega); subst e9; rw [c_0] at tn_4; first | (simp [sp_whatWas, hx4, c_0, hb_2, tn_2, hb_4, tn_4]; done) | (simp [sp_whatWas, isI, hx4, c_0, hb_2, tn_2, hb_4, tn_4]; done)) hP hD hS
            have n_9 : ¬ 6 ≤ j := fun q => c_9 ((ni_le (a := 6) (b := j) (rfl : (6 : Int32) = nI 6) hx5 (by decide) (by omega)).mpr q)
            have d_9 : x5 < 6 := Int32.not_le.1 c_9
            have m_9 : j < 6 := by omega
            refine lv_iconst (v := 1) hx hb dX4_whatWas_63 (by decide) ?_
            refine lv_istore (lv' := [(6, .int 1), (5, .int x5), (4, .int x4), (3, .int x_6), (0, .ref a0), (1, .int p0), (2, .int p1)]) hx hb dX4_whatWas_64 hl (by decide) rfl (fun ls hl => ?_)
            refine lv_aload_n hx hb dX4_whatWas_66 rfl (lv_at hl 4 rfl) ?_
            refine va_get (D := D) (ci := 3) (v := .ref a1) (C := RX4) (T := TX4) (N := 13) hx hb hts hi_X4 hown hK.1 hP 0 rfl rfl 0 (by decide) hk_9 (fun _ h9 => h9) rfl dX4_whatWas_67 ?_
            refine lv_aload_n hx hb dX4_whatWas_70 rfl (lv_at hl 4 rfl) ?_
            refine va_get (D := D) (ci := 3) (v := .ref a2) (C := RX4) (T := TX4) (N := 13) hx hb hts hi_X4 hown hK.1 hP 0 rfl rfl 1 (by decide) hk_13 (fun _ h9 => h9) rfl dX4_whatWas_71 ?_
            refine xw_Sv (As := [.ref a1, .ref a2]) (rest := []) (Wn := fun u => [(a0, .inr (3, [.ref a1, .ref a2, .ref a3, .ref a4, .int gg.hs, .ref a5, .ref a6, .ref a7, .int (nI gg.L), .int (nI gg.M), .int mm.pl, .ref a8, .int mm.sd])), (a1, .inl (cI, 49, .inl gg.r)), (a2, .inl (cI, 49, .inl gg.r)), (a3, .inl (cI, 49, .inl gg.im)), (a4, .inl (cI, 49, .inl mm.ws)), (a5, .inl (cI, 96, .inl gg.lt)), (a6, .inl (cI, 16, .inl gg.rw)), (a7, .inl (cI, 7, .inl gg.rf)), (a8, .inl (cI, 3, .inl mm.nb))]) (Wr := [(a0, .inr (3, [.ref a1, .ref a2, .ref a3, .ref a4, .int gg.hs, .ref a5, .ref a6, .ref a7, .int (nI gg.L), .int (nI gg.M), .int mm.pl, .ref a8, .int mm.sd])), (a3, .inl (cI, 49, .inl gg.im)), (a4, .inl (cI, 49, .inl mm.ws)), (a5, .inl (cI, 96, .inl gg.lt)), (a6, .inl (cI, 16, .inl gg.rw)), (a7, .inl (cI, 7, .inl gg.rf)), (a8, .inl (cI, 3, .inl mm.nb))]) ⟨hx, hb, hml, hown, hts⟩ (kX4_copies l D cI H.size a1 a2 gg.r f) (va_cwS 2 hts gX4_whatWas_X4_copies rfl rfl rfl hs_X4_copies ⟨Nat.le_of_ble_eq_true rfl, Nat.le_of_ble_eq_true rfl⟩) hK hP hD hS hA [1, 2] [0, 3, 4, 5, 6, 7, 8] [0, 7, 8, 1, 2, 3, 4, 5, 6] rfl rfl (by decide) (by decide) (by decide) (by decide) (fun u => rfl) rfl hl.1 rfl (Nat.le_of_ble_eq_true rfl) dX4_whatWas_74 ⟨Nat.zero_le _, Nat.zero_le _⟩ (fun u_10 H locs hw_10 hP hD hS => ?_)
            refine lv_aload_n hx hb dX4_whatWas_77 rfl (lv_at hl 4 rfl) ?_
            refine va_get (D := D) (ci := 3) (v := .ref a2) (C := RX4) (T := TX4) (N := 13) hx hb hts hi_X4 hown hK.1 hP 0 rfl rfl 1 (by decide) hk_13 (fun _ h9 => h9) rfl dX4_whatWas_78 ?_
            refine lv_iload_n hx hb dX4_whatWas_81 rfl (lv_at hl 5 rfl) ?_
            refine lv_iload_n hx hb dX4_whatWas_82 rfl (lv_at hl 6 rfl) ?_
            refine xc_Si (As := [.int p0, .int p1]) (rest := [.ref a2]) ⟨hx, hb, hml, hown, hts⟩ (kX4_of l D cI p0 p1 t_2 i_4 et_2 ei_4) (va_cwS 2 hts gX4_whatWas_X4_of rfl rfl rfl hs_X4_of ⟨Nat.le_of_ble_eq_true rfl, Nat.le_of_ble_eq_true rfl⟩) hK hP [] rfl rfl hl.1 rfl (Nat.le_of_ble_eq_true rfl) dX4_whatWas_83 ⟨Nat.zero_le _, Nat.zero_le _⟩ (fun r_11 hr_11 => ?_)
            refine lv_iload hx hb dX4_whatWas_86 (lv_at hl 1 rfl) ?_
            refine xa_st hx hb hK hP hD hS 2 rfl (j := (oF t_2 i_4)) hr_11 (by unfold oF; omega) (by decide) dX4_whatWas_88 (fun H locs hP hD hS => ?_)
            obtain ⟨f_12, ef_12⟩ : ∃ z : Nat → Int32, z = upd gg.r (oF t_2 i_4) x5 := ⟨_, rfl⟩
            replace hP : va_P D vwCl [(a0, .inr (3, [.ref a1, .ref a2, .ref a3, .ref a4, .int gg.hs, .ref a5, .ref a6, .ref a7, .int (nI gg.L), .int (nI gg.M), .int mm.pl, .ref a8, .int mm.sd])), (a1, .inl (cI, 49, .inl gg.r)), (a2, .inl (cI, 49, .inl (upd gg.r (oF t_2 i_4) x5))), (a3, .inl (cI, 49, .inl gg.im)), (a4, .inl (cI, 49, .inl mm.ws)), (a5, .inl (cI, 96, .inl gg.lt)), (a6, .inl (cI, 16, .inl gg.rw)), (a7, .inl (cI, 7, .inl gg.rf)), (a8, .inl (cI, 3, .inl mm.nb))] H := hP
            replace hD : va_D A [(a0, .inr (3, [.ref a1, .ref a2, .ref a3, .ref a4, .int gg.hs, .ref a5, .ref a6, .ref a7, .int (nI gg.L), .int (nI gg.M), .int mm.pl, .ref a8, .int mm.sd])), (a1, .inl (cI, 49, .inl gg.r)), (a2, .inl (cI, 49, .inl (upd gg.r (oF t_2 i_4) x5))), (a3, .inl (cI, 49, .inl gg.im)), (a4, .inl (cI, 49, .inl mm.ws)), (a5, .inl (cI, 96, .inl gg.lt)), (a6, .inl (cI, 16, .inl gg.rw)), (a7, .inl (cI, 7, .inl gg.rf)), (a8, .inl (cI, 3, .inl mm.nb))] := hD
            rw [← ef_12] at hP hD
            have hI_w9 : Inv gg.n f_12 := (by rw [ef_12]; exact hI.uo _ (by omega) (okv_01 hx5 (by omega)))
            refine lv_iconst (v := 0) hx hb dX4_whatWas_89 (by decide) ?_
            refine lv_istore (lv' := [(7, .int 0), (6, .int 1), (5, .int x5), (4, .int x4), (3, .int x_6), (0, .ref a0), (1, .int p0), (2, .int p1)]) hx hb dX4_whatWas_90 hl (by decide) rfl (fun ls hl => ?_)
            have lp_92_13 : ∀ (fu : Nat) (i : Nat) (x7 : Int32) (x6 : Int32) (f2 : RR) (ls : Array Slot) (H : Heap) (locs : List Loc), gg.M - i < fu → (x7 = nI i) → (i ≤ gg.M) → (x6 = if wwI f_12 gg.n x_6 gg.rw i = true then 1 else 0) → (f2 = dsR f_12 gg.n i) → va_P D vwCl [(a0, .inr (3, [.ref a1, .ref a2, .ref a3, .ref a4, .int gg.hs, .ref a5, .ref a6, .ref a7, .int (nI gg.L), .int (nI gg.M), .int mm.pl, .ref a8, .int mm.sd])), (a1, .inl (cI, 49, .inl gg.r)), (a2, .inl (cI, 49, .inl f2)), (a3, .inl (cI, 49, .inl gg.im)), (a4, .inl (cI, 49, .inl mm.ws)), (a5, .inl (cI, 96, .inl gg.lt)), (a6, .inl (cI, 16, .inl gg.rw)), (a7, .inl (cI, 7, .inl gg.rf)), (a8, .inl (cI, 3, .inl mm.nb))] H → va_D A [(a0, .inr (3, [.ref a1, .ref a2, .ref a3, .ref a4, .int gg.hs, .ref a5, .ref a6, .ref a7, .int (nI gg.L), .int (nI gg.M), .int mm.pl, .ref a8, .int mm.sd])), (a1, .inl (cI, 49, .inl gg.r)), (a2, .inl (cI, 49, .inl f2)), (a3, .inl (cI, 49, .inl gg.im)), (a4, .inl (cI, 49, .inl mm.ws)), (a5, .inl (cI, 96, .inl gg.lt)), (a6, .inl (cI, 16, .inl gg.rw)), (a7, .inl (cI, 7, .inl gg.rf)), (a8, .inl (cI, 3, .inl mm.nb))] → va_S A s.heap H locs → lv_has ls 9 [(7, .int x7), (6, .int x6), (5, .int x5), (4, .int x4), (3, .int x_6), (0, .ref a0), (1, .int p0), (2, .int p1)] → W p l e ({ frames := 6, cells := 0, slots := 0, locals := 132 }) s m [.ref a0, .int p0, .int p1].toArray below meth c H locs 0 0 Q (F0 m 92 ls []) := by
              intro fu
              induction fu with
              | zero =>
                intro i x7 x6 f2 ls H locs hfu
                exact absurd hfu (Nat.not_lt_zero _)
              | succ fu ih_13 =>
                intro i x7 x6 f2 ls H locs hfu hx7 hi hx6 hf2 hP hD hS hl
                have hI_f2 : Inv gg.n f2 := (by rw [hf2]; exact hI_w9.idsR _)
                refine lv_iload hx hb dX4_whatWas_92 (lv_at hl 0 rfl) ?_
                refine lv_aload_n hx hb dX4_whatWas_94 rfl (lv_at hl 5 rfl) ?_
                refine va_get (D := D) (ci := 3) (v := .int (nI gg.M)) (C := RX4) (T := TX4) (N := 13) hx hb hts hi_X4 hown hK.1 hP 0 rfl rfl 9 (by decide) hk_186 (fun _ h9 => h9) rfl dX4_whatWas_95 ?_
                refine lv_icmp_ge (tgt := 152) hx hb dX4_whatWas_98 (by decide) (fun c_14 => ?_) (fun c_14 => ?_)
                · skip
                  have n_14 : gg.M ≤ i := (ni_le (a := gg.M) (b := i) rfl hx7 (by omega) (by omega)).mp c_14
                  have d_14 : ¬ x7 < (nI gg.M) := Int32.not_lt.2 c_14
                  have m_14 : ¬ i < gg.M := by omega
                  refine lv_iload hx hb dX4_whatWas_152 (lv_at hl 3 rfl) ?_
                  refine lv_iload hx hb dX4_whatWas_154 (lv_at hl 1 rfl) ?_
                  refine lv_if_eq (tgt := 166) hx hb dX4_whatWas_156 (by decide) (fun c_15 => ?_) (fun c_15 => ?_)
                  · skip
                    refine lv_iconst (v := 0) hx hb dX4_whatWas_166 (by decide) ?_
                    refine lv_ior hx hb dX4_whatWas_167 ?_
                    refine lv_topi (fun x_16 ex_16 => ?_)
                    refine lv_istore (lv' := [(4, .int x_16), (7, .int x7), (6, .int x6), (5, .int x5), (3, .int x_6), (0, .ref a0), (1, .int p0), (2, .int p1)]) hx hb dX4_whatWas_168 hl (by decide) rfl (fun ls hl => ?_)
                    obtain ⟨x_17, ex_17⟩ : ∃ z : Int32, z = x5 + 1 := ⟨_, rfl⟩
                    refine lv_iinc (v := x_17) (lv' := [(5, .int x_17), (4, .int x_16), (7, .int x7), (6, .int x6), (3, .int x_6), (0, .ref a0), (1, .int p0), (2, .int p1)]) hx hb dX4_whatWas_170 hl (k := 3) rfl (by rw [ex_17]; rfl) (by decide) rfl (fun ls hl => ?_)
                    refine lv_goto (tgt := 47) hx hb dX4_whatWas_173 (by decide) ?_
                    exact ih_7 (j + 1) x_17 x_16 f2 _ _ _ (by omega) (ni_add (a := j) (b := 1) ex_17 hx5 (rfl : (1 : Int32) = nI 1)) (by omega) (by have e8 : i = gg.M := (by omega); rw [e8] at hx6; have q := bool_f hx6 c_15; rw [ef_12, hx5, ex_6] at q; rw [ex_16, hx4, wwF, if_neg (by rw [q]; decide)]) hP hD hS (lv_sub hl [0, 1, 4, 5, 6, 7] rfl)
                  refine lv_iconst (v := 1) hx hb dX4_whatWas_159 (by decide) ?_
                  refine lv_iload hx hb dX4_whatWas_160 (lv_at hl 2 rfl) ?_
                  refine lv_ishl hx hb dX4_whatWas_162 ?_
                  refine lv_goto (tgt := 167) hx hb dX4_whatWas_163 (by decide) ?_
                  refine lv_ior hx hb dX4_whatWas_167 ?_
                  refine lv_topi (fun x_18 ex_18 => ?_)
                  refine lv_istore (lv' := [(4, .int x_18), (7, .int x7), (6, .int x6), (5, .int x5), (3, .int x_6), (0, .ref a0), (1, .int p0), (2, .int p1)]) hx hb dX4_whatWas_168 hl (by decide) rfl (fun ls hl => ?_)
                  obtain ⟨x_19, ex_19⟩ : ∃ z : Int32, z = x5 + 1 := ⟨_, rfl⟩
                  refine lv_iinc (v := x_19) (lv' := [(5, .int x_19), (4, .int x_18), (7, .int x7), (6, .int x6), (3, .int x_6), (0, .ref a0), (1, .int p0), (2, .int p1)]) hx hb dX4_whatWas_170 hl (k := 3) rfl (by rw [ex_19]; rfl) (by decide) rfl (fun ls hl => ?_)
                  refine lv_goto (tgt := 47) hx hb dX4_whatWas_173 (by decide) ?_
                  exact ih_7 (j + 1) x_19 x_18 f2 _ _ _ (by omega) (ni_add (a := j) (b := 1) ex_19 hx5 (rfl : (1 : Int32) = nI 1)) (by omega) (by have e8 : i = gg.M := (by omega); rw [e8] at hx6; have q := bool_t hx6 c_15; rw [ef_12, hx5, ex_6] at q; rw [ex_18, hx4, wwF, if_pos q, hx5]) hP hD hS (lv_sub hl [0, 1, 4, 5, 6, 7] rfl)
                have n_14 : ¬ gg.M ≤ i := fun q => c_14 ((ni_le (a := gg.M) (b := i) rfl hx7 (by omega) (by omega)).mpr q)
                have d_14 : x7 < (nI gg.M) := Int32.not_le.1 c_14
                have m_14 : i < gg.M := by omega
                refine lv_iload hx hb dX4_whatWas_101 (lv_at hl 1 rfl) ?_
                refine lv_aload_n hx hb dX4_whatWas_103 rfl (lv_at hl 5 rfl) ?_
                refine va_get (D := D) (ci := 3) (v := .ref a2) (C := RX4) (T := TX4) (N := 13) hx hb hts hi_X4 hown hK.1 hP 0 rfl rfl 1 (by decide) hk_13 (fun _ h9 => h9) rfl dX4_whatWas_104 ?_
                refine lv_aload_n hx hb dX4_whatWas_107 rfl (lv_at hl 5 rfl) ?_
                refine va_get (D := D) (ci := 3) (v := .ref a2) (C := RX4) (T := TX4) (N := 13) hx hb hts hi_X4 hown hK.1 hP 0 rfl rfl 1 (by decide) hk_13 (fun _ h9 => h9) rfl dX4_whatWas_108 ?_
                refine lv_iload_n hx hb dX4_whatWas_111 rfl (lv_at hl 4 rfl) ?_
                refine xc_Si (As := [.ref a2, .int x_6]) (rest := [.ref a2, .int x6]) ⟨hx, hb, hml, hown, hts⟩ (kX4_nestIn l D cI a2 f2 gg.n hI_f2 x_6) (va_cwS 2 hts gX4_whatWas_X4_nestIn rfl rfl rfl hs_X4_nestIn ⟨Nat.le_of_ble_eq_true rfl, Nat.le_of_ble_eq_true rfl⟩) hK hP [2] rfl rfl hl.1 rfl (Nat.le_of_ble_eq_true rfl) dX4_whatWas_112 ⟨Nat.zero_le _, Nat.zero_le _⟩ (fun r_20 hr_20 => ?_)
                refine lv_iconst (v := 1) hx hb dX4_whatWas_115 (by decide) ?_
                refine xc_Si (As := [.ref a2, .int r_20, .int 1]) (rest := [.int x6]) ⟨hx, hb, hml, hown, hts⟩ (kX4_sumOf l D cI a2 f2 gg.n hI_f2 r_20 1) (va_cwS 3 hts gX4_whatWas_X4_sumOf rfl rfl rfl hs_X4_sumOf ⟨Nat.le_of_ble_eq_true rfl, Nat.le_of_ble_eq_true rfl⟩) hK hP [2] rfl rfl hl.1 rfl (Nat.le_of_ble_eq_true rfl) dX4_whatWas_116 ⟨Nat.zero_le _, Nat.zero_le _⟩ (fun r_21 hr_21 => ?_)
                refine lv_aload_n hx hb dX4_whatWas_119 rfl (lv_at hl 5 rfl) ?_
                refine va_get (D := D) (ci := 3) (v := .ref a6) (C := RX4) (T := TX4) (N := 13) hx hb hts hi_X4 hown hK.1 hP 0 rfl rfl 6 (by decide) hk_25 (fun _ h9 => h9) rfl dX4_whatWas_120 ?_
                refine lv_iload hx hb dX4_whatWas_123 (lv_at hl 0 rfl) ?_
                refine xa_ld hx hb hK hP 6 rfl (j := i) hx7 (by omega) (by decide) dX4_whatWas_125 ?_
                refine lv_icmp_ne (tgt := 133) hx hb dX4_whatWas_126 (by decide) (fun c_22 => ?_) (fun c_22 => ?_)
                · skip
                  refine lv_iconst (v := 0) hx hb dX4_whatWas_133 (by decide) ?_
                  refine lv_iand hx hb dX4_whatWas_134 ?_
                  refine lv_topi (fun x_23 ex_23 => ?_)
                  refine lv_istore (lv' := [(6, .int x_23), (7, .int x7), (5, .int x5), (4, .int x4), (3, .int x_6), (0, .ref a0), (1, .int p0), (2, .int p1)]) hx hb dX4_whatWas_135 hl (by decide) rfl (fun ls hl => ?_)
                  refine lv_aload_n hx hb dX4_whatWas_137 rfl (lv_at hl 5 rfl) ?_
                  refine va_get (D := D) (ci := 3) (v := .ref a2) (C := RX4) (T := TX4) (N := 13) hx hb hts hi_X4 hown hK.1 hP 0 rfl rfl 1 (by decide) hk_13 (fun _ h9 => h9) rfl dX4_whatWas_138 ?_
                  refine xw_Si (As := [.ref a2]) (rest := []) (Wn := fun u => [(a0, .inr (3, [.ref a1, .ref a2, .ref a3, .ref a4, .int gg.hs, .ref a5, .ref a6, .ref a7, .int (nI gg.L), .int (nI gg.M), .int mm.pl, .ref a8, .int mm.sd])), (a1, .inl (cI, 49, .inl gg.r)), (a2, .inl (cI, 49, .inl u)), (a3, .inl (cI, 49, .inl gg.im)), (a4, .inl (cI, 49, .inl mm.ws)), (a5, .inl (cI, 96, .inl gg.lt)), (a6, .inl (cI, 16, .inl gg.rw)), (a7, .inl (cI, 7, .inl gg.rf)), (a8, .inl (cI, 3, .inl mm.nb))]) (Wr := [(a0, .inr (3, [.ref a1, .ref a2, .ref a3, .ref a4, .int gg.hs, .ref a5, .ref a6, .ref a7, .int (nI gg.L), .int (nI gg.M), .int mm.pl, .ref a8, .int mm.sd])), (a1, .inl (cI, 49, .inl gg.r)), (a3, .inl (cI, 49, .inl gg.im)), (a4, .inl (cI, 49, .inl mm.ws)), (a5, .inl (cI, 96, .inl gg.lt)), (a6, .inl (cI, 16, .inl gg.rw)), (a7, .inl (cI, 7, .inl gg.rf)), (a8, .inl (cI, 3, .inl mm.nb))]) ⟨hx, hb, hml, hown, hts⟩ (kX4_day l D cI H.size a2 f2 gg.n hI_f2) (va_cwS 1 hts gX4_whatWas_X4_day rfl rfl rfl hs_X4_day ⟨Nat.le_of_ble_eq_true rfl, Nat.le_of_ble_eq_true rfl⟩) hK hP hD hS hA [2] [0, 1, 3, 4, 5, 6, 7, 8] [0, 1, 8, 2, 3, 4, 5, 6, 7] rfl rfl (by decide) (by decide) (by decide) (by decide) (fun u => rfl) rfl hl.1 rfl (Nat.le_of_ble_eq_true rfl) dX4_whatWas_141 ⟨Nat.zero_le _, Nat.zero_le _⟩ (fun r_24 u_24 H locs hw_24 hP hD hS => ?_)
                  obtain ⟨hr_24, hu_24⟩ := hw_24
                  have hI_u_24 : Inv gg.n u_24 := (by rw [hu_24]; exact hI_f2.idayR)
                  refine lv_istore (lv' := [(8, .int r_24), (6, .int x_23), (7, .int x7), (5, .int x5), (4, .int x4), (3, .int x_6), (0, .ref a0), (1, .int p0), (2, .int p1)]) hx hb dX4_whatWas_144 hl (by decide) rfl (fun ls hl => ?_)
                  obtain ⟨x_25, ex_25⟩ : ∃ z : Int32, z = x7 + 1 := ⟨_, rfl⟩
                  refine lv_iinc (v := x_25) (lv' := [(7, .int x_25), (8, .int r_24), (6, .int x_23), (5, .int x5), (4, .int x4), (3, .int x_6), (0, .ref a0), (1, .int p0), (2, .int p1)]) hx hb dX4_whatWas_146 hl (k := 2) rfl (by rw [ex_25]; rfl) (by decide) rfl (fun ls hl => ?_)
                  refine lv_goto (tgt := 92) hx hb dX4_whatWas_149 (by decide) ?_
                  exact ih_13 (i + 1) x_25 x_23 u_24 _ _ _ (by omega) (ni_add (a := i) (b := 1) ex_25 hx7 (rfl : (1 : Int32) = nI 1)) (by omega) (by rw [ex_23, hx6, ww_f (by rw [← hf2, ← hr_20, ← hr_21]; exact c_22)]; exact b_and0 _) (by rw [dsR, ← hf2]; exact hu_24) hP hD hS (lv_sub hl [0, 2, 3, 4, 5, 6, 7, 8] rfl)
                refine lv_iconst (v := 1) hx hb dX4_whatWas_129 (by decide) ?_
                refine lv_goto (tgt := 134) hx hb dX4_whatWas_130 (by decide) ?_
                refine lv_iand hx hb dX4_whatWas_134 ?_
                refine lv_topi (fun x_26 ex_26 => ?_)
                refine lv_istore (lv' := [(6, .int x_26), (7, .int x7), (5, .int x5), (4, .int x4), (3, .int x_6), (0, .ref a0), (1, .int p0), (2, .int p1)]) hx hb dX4_whatWas_135 hl (by decide) rfl (fun ls hl => ?_)
                refine lv_aload_n hx hb dX4_whatWas_137 rfl (lv_at hl 5 rfl) ?_
                refine va_get (D := D) (ci := 3) (v := .ref a2) (C := RX4) (T := TX4) (N := 13) hx hb hts hi_X4 hown hK.1 hP 0 rfl rfl 1 (by decide) hk_13 (fun _ h9 => h9) rfl dX4_whatWas_138 ?_
                refine xw_Si (As := [.ref a2]) (rest := []) (Wn := fun u => [(a0, .inr (3, [.ref a1, .ref a2, .ref a3, .ref a4, .int gg.hs, .ref a5, .ref a6, .ref a7, .int (nI gg.L), .int (nI gg.M), .int mm.pl, .ref a8, .int mm.sd])), (a1, .inl (cI, 49, .inl gg.r)), (a2, .inl (cI, 49, .inl u)), (a3, .inl (cI, 49, .inl gg.im)), (a4, .inl (cI, 49, .inl mm.ws)), (a5, .inl (cI, 96, .inl gg.lt)), (a6, .inl (cI, 16, .inl gg.rw)), (a7, .inl (cI, 7, .inl gg.rf)), (a8, .inl (cI, 3, .inl mm.nb))]) (Wr := [(a0, .inr (3, [.ref a1, .ref a2, .ref a3, .ref a4, .int gg.hs, .ref a5, .ref a6, .ref a7, .int (nI gg.L), .int (nI gg.M), .int mm.pl, .ref a8, .int mm.sd])), (a1, .inl (cI, 49, .inl gg.r)), (a3, .inl (cI, 49, .inl gg.im)), (a4, .inl (cI, 49, .inl mm.ws)), (a5, .inl (cI, 96, .inl gg.lt)), (a6, .inl (cI, 16, .inl gg.rw)), (a7, .inl (cI, 7, .inl gg.rf)), (a8, .inl (cI, 3, .inl mm.nb))]) ⟨hx, hb, hml, hown, hts⟩ (kX4_day l D cI H.size a2 f2 gg.n hI_f2) (va_cwS 1 hts gX4_whatWas_X4_day rfl rfl rfl hs_X4_day ⟨Nat.le_of_ble_eq_true rfl, Nat.le_of_ble_eq_true rfl⟩) hK hP hD hS hA [2] [0, 1, 3, 4, 5, 6, 7, 8] [0, 1, 8, 2, 3, 4, 5, 6, 7] rfl rfl (by decide) (by decide) (by decide) (by decide) (fun u => rfl) rfl hl.1 rfl (Nat.le_of_ble_eq_true rfl) dX4_whatWas_141 ⟨Nat.zero_le _, Nat.zero_le _⟩ (fun r_27 u_27 H locs hw_27 hP hD hS => ?_)
                obtain ⟨hr_27, hu_27⟩ := hw_27
                have hI_u_27 : Inv gg.n u_27 := (by rw [hu_27]; exact hI_f2.idayR)
                refine lv_istore (lv' := [(8, .int r_27), (6, .int x_26), (7, .int x7), (5, .int x5), (4, .int x4), (3, .int x_6), (0, .ref a0), (1, .int p0), (2, .int p1)]) hx hb dX4_whatWas_144 hl (by decide) rfl (fun ls hl => ?_)
                obtain ⟨x_28, ex_28⟩ : ∃ z : Int32, z = x7 + 1 := ⟨_, rfl⟩
                refine lv_iinc (v := x_28) (lv' := [(7, .int x_28), (8, .int r_27), (6, .int x_26), (5, .int x5), (4, .int x4), (3, .int x_6), (0, .ref a0), (1, .int p0), (2, .int p1)]) hx hb dX4_whatWas_146 hl (k := 2) rfl (by rw [ex_28]; rfl) (by decide) rfl (fun ls hl => ?_)
                refine lv_goto (tgt := 92) hx hb dX4_whatWas_149 (by decide) ?_
                exact ih_13 (i + 1) x_28 x_26 u_27 _ _ _ (by omega) (ni_add (a := i) (b := 1) ex_28 hx7 (rfl : (1 : Int32) = nI 1)) (by omega) (by rw [ex_26, hx6, ww_t (by rw [← hf2, ← hr_20, ← hr_21]; exact c_22)]; exact b_and1 _) (by rw [dsR, ← hf2]; exact hu_27) hP hD hS (lv_sub hl [0, 2, 3, 4, 5, 6, 7, 8] rfl)
            exact lp_92_13 ((gg.M - 0) + 1) 0 0 1 f_12 _ _ _ (by omega) (rfl : (0 : Int32) = nI 0) (by omega) rfl rfl hP hD hS (lv_sub hl [0, 1, 2, 3, 4, 5, 6, 7] rfl)
        exact lp_47_7 ((10 - 0) + 1) 0 0 0 mm.m _ _ _ (by omega) (rfl : (0 : Int32) = nI 0) (by omega) rfl hP hD hS (lv_sub hl [0, 1, 2, 3, 4, 5] rfl)
      have hw0 : (i_4 = 0 ∧ 10 = 6) ∨ (i_4 = 1 ∧ 10 = 10) := by have : ¬ i_4 = 0 := fun q => c_0 ((ni_eq (a := i_4) (b := 0) ei_4 rfl (by omega) (by omega)).mpr q); omega
      refine lv_iconst (v := 0) hx hb dX4_whatWas_44 (by decide) ?_
      refine lv_istore (lv' := [(5, .int 0), (4, .int 0), (3, .int x_6), (0, .ref a0), (1, .int p0), (2, .int p1)]) hx hb dX4_whatWas_45 hl (by decide) rfl (fun ls hl => ?_)
      have lp_47_29 : ∀ (fu : Nat) (j : Nat) (x5 : Int32) (x4 : Int32) (f : RR) (ls : Array Slot) (H : Heap) (locs : List Loc), 10 - j < fu → (x5 = nI j) → (j ≤ 10) → (x4 = wwF gg.r gg.n t_2 i_4 (gg.r (oF t_2 2)) gg.rw gg.M j) → va_P D vwCl [(a0, .inr (3, [.ref a1, .ref a2, .ref a3, .ref a4, .int gg.hs, .ref a5, .ref a6, .ref a7, .int (nI gg.L), .int (nI gg.M), .int mm.pl, .ref a8, .int mm.sd])), (a1, .inl (cI, 49, .inl gg.r)), (a2, .inl (cI, 49, .inl f)), (a3, .inl (cI, 49, .inl gg.im)), (a4, .inl (cI, 49, .inl mm.ws)), (a5, .inl (cI, 96, .inl gg.lt)), (a6, .inl (cI, 16, .inl gg.rw)), (a7, .inl (cI, 7, .inl gg.rf)), (a8, .inl (cI, 3, .inl mm.nb))] H → va_D A [(a0, .inr (3, [.ref a1, .ref a2, .ref a3, .ref a4, .int gg.hs, .ref a5, .ref a6, .ref a7, .int (nI gg.L), .int (nI gg.M), .int mm.pl, .ref a8, .int mm.sd])), (a1, .inl (cI, 49, .inl gg.r)), (a2, .inl (cI, 49, .inl f)), (a3, .inl (cI, 49, .inl gg.im)), (a4, .inl (cI, 49, .inl mm.ws)), (a5, .inl (cI, 96, .inl gg.lt)), (a6, .inl (cI, 16, .inl gg.rw)), (a7, .inl (cI, 7, .inl gg.rf)), (a8, .inl (cI, 3, .inl mm.nb))] → va_S A s.heap H locs → lv_has ls 9 [(5, .int x5), (4, .int x4), (3, .int x_6), (0, .ref a0), (1, .int p0), (2, .int p1)] → W p l e ({ frames := 6, cells := 0, slots := 0, locals := 132 }) s m [.ref a0, .int p0, .int p1].toArray below meth c H locs 0 0 Q (F0 m 47 ls []) := by
        intro fu
        induction fu with
        | zero =>
          intro j x5 x4 f ls H locs hfu
          exact absurd hfu (Nat.not_lt_zero _)
        | succ fu ih_29 =>
          intro j x5 x4 f ls H locs hfu hx5 hj hx4 hP hD hS hl
          refine lv_iload hx hb dX4_whatWas_47 (lv_at hl 0 rfl) ?_
          refine lv_iload_n hx hb dX4_whatWas_49 rfl (lv_at hl 5 rfl) ?_
          refine lv_if_ne (tgt := 58) hx hb dX4_whatWas_50 (by decide) (fun c_30 => ?_) (fun c_30 => ?_)
          · skip
            refine lv_bipush (v := 10) hx hb dX4_whatWas_58 (by decide) ?_
            refine lv_icmp_ge (tgt := 176) hx hb dX4_whatWas_60 (by decide) (fun c_31 => ?_) (fun c_31 => ?_)
            · skip
              have n_31 : 10 ≤ j := (ni_le (a := 10) (b := j) (rfl : (10 : Int32) = nI 10) hx5 (by decide) (by omega)).mp c_31
              have d_31 : ¬ x5 < 10 := Int32.not_lt.2 c_31
              have m_31 : ¬ j < 10 := by omega
              refine lv_iload hx hb dX4_whatWas_176 (lv_at hl 1 rfl) ?_
              exact hret 178 _ x4 (gg, (f, mm.ws, mm.nb, mm.pl, mm.sd)) _ _ dX4_whatWas_178 (by have e9 : j = 10 := (by omega); subst e9; first | (simp [sp_whatWas, hx4, c_0, hb_2, tn_2, hb_4, tn_4]; done) | (simp [sp_whatWas, isI, hx4, c_0, hb_2, tn_2, hb_4, tn_4]; done)) hP hD hS
            have n_31 : ¬ 10 ≤ j := fun q => c_31 ((ni_le (a := 10) (b := j) (rfl : (10 : Int32) = nI 10) hx5 (by decide) (by omega)).mpr q)
            have d_31 : x5 < 10 := Int32.not_le.1 c_31
            have m_31 : j < 10 := by omega
            refine lv_iconst (v := 1) hx hb dX4_whatWas_63 (by decide) ?_
            refine lv_istore (lv' := [(6, .int 1), (5, .int x5), (4, .int x4), (3, .int x_6), (0, .ref a0), (1, .int p0), (2, .int p1)]) hx hb dX4_whatWas_64 hl (by decide) rfl (fun ls hl => ?_)
            refine lv_aload_n hx hb dX4_whatWas_66 rfl (lv_at hl 4 rfl) ?_
            refine va_get (D := D) (ci := 3) (v := .ref a1) (C := RX4) (T := TX4) (N := 13) hx hb hts hi_X4 hown hK.1 hP 0 rfl rfl 0 (by decide) hk_9 (fun _ h9 => h9) rfl dX4_whatWas_67 ?_
            refine lv_aload_n hx hb dX4_whatWas_70 rfl (lv_at hl 4 rfl) ?_
            refine va_get (D := D) (ci := 3) (v := .ref a2) (C := RX4) (T := TX4) (N := 13) hx hb hts hi_X4 hown hK.1 hP 0 rfl rfl 1 (by decide) hk_13 (fun _ h9 => h9) rfl dX4_whatWas_71 ?_
            refine xw_Sv (As := [.ref a1, .ref a2]) (rest := []) (Wn := fun u => [(a0, .inr (3, [.ref a1, .ref a2, .ref a3, .ref a4, .int gg.hs, .ref a5, .ref a6, .ref a7, .int (nI gg.L), .int (nI gg.M), .int mm.pl, .ref a8, .int mm.sd])), (a1, .inl (cI, 49, .inl gg.r)), (a2, .inl (cI, 49, .inl gg.r)), (a3, .inl (cI, 49, .inl gg.im)), (a4, .inl (cI, 49, .inl mm.ws)), (a5, .inl (cI, 96, .inl gg.lt)), (a6, .inl (cI, 16, .inl gg.rw)), (a7, .inl (cI, 7, .inl gg.rf)), (a8, .inl (cI, 3, .inl mm.nb))]) (Wr := [(a0, .inr (3, [.ref a1, .ref a2, .ref a3, .ref a4, .int gg.hs, .ref a5, .ref a6, .ref a7, .int (nI gg.L), .int (nI gg.M), .int mm.pl, .ref a8, .int mm.sd])), (a3, .inl (cI, 49, .inl gg.im)), (a4, .inl (cI, 49, .inl mm.ws)), (a5, .inl (cI, 96, .inl gg.lt)), (a6, .inl (cI, 16, .inl gg.rw)), (a7, .inl (cI, 7, .inl gg.rf)), (a8, .inl (cI, 3, .inl mm.nb))]) ⟨hx, hb, hml, hown, hts⟩ (kX4_copies l D cI H.size a1 a2 gg.r f) (va_cwS 2 hts gX4_whatWas_X4_copies rfl rfl rfl hs_X4_copies ⟨Nat.le_of_ble_eq_true rfl, Nat.le_of_ble_eq_true rfl⟩) hK hP hD hS hA [1, 2] [0, 3, 4, 5, 6, 7, 8] [0, 7, 8, 1, 2, 3, 4, 5, 6] rfl rfl (by decide) (by decide) (by decide) (by decide) (fun u => rfl) rfl hl.1 rfl (Nat.le_of_ble_eq_true rfl) dX4_whatWas_74 ⟨Nat.zero_le _, Nat.zero_le _⟩ (fun u_32 H locs hw_32 hP hD hS => ?_)
            refine lv_aload_n hx hb dX4_whatWas_77 rfl (lv_at hl 4 rfl) ?_
            refine va_get (D := D) (ci := 3) (v := .ref a2) (C := RX4) (T := TX4) (N := 13) hx hb hts hi_X4 hown hK.1 hP 0 rfl rfl 1 (by decide) hk_13 (fun _ h9 => h9) rfl dX4_whatWas_78 ?_
            refine lv_iload_n hx hb dX4_whatWas_81 rfl (lv_at hl 5 rfl) ?_
            refine lv_iload_n hx hb dX4_whatWas_82 rfl (lv_at hl 6 rfl) ?_
            refine xc_Si (As := [.int p0, .int p1]) (rest := [.ref a2]) ⟨hx, hb, hml, hown, hts⟩ (kX4_of l D cI p0 p1 t_2 i_4 et_2 ei_4) (va_cwS 2 hts gX4_whatWas_X4_of rfl rfl rfl hs_X4_of ⟨Nat.le_of_ble_eq_true rfl, Nat.le_of_ble_eq_true rfl⟩) hK hP [] rfl rfl hl.1 rfl (Nat.le_of_ble_eq_true rfl) dX4_whatWas_83 ⟨Nat.zero_le _, Nat.zero_le _⟩ (fun r_33 hr_33 => ?_)
            refine lv_iload hx hb dX4_whatWas_86 (lv_at hl 1 rfl) ?_
            refine xa_st hx hb hK hP hD hS 2 rfl (j := (oF t_2 i_4)) hr_33 (by unfold oF; omega) (by decide) dX4_whatWas_88 (fun H locs hP hD hS => ?_)
            obtain ⟨f_34, ef_34⟩ : ∃ z : Nat → Int32, z = upd gg.r (oF t_2 i_4) x5 := ⟨_, rfl⟩
            replace hP : va_P D vwCl [(a0, .inr (3, [.ref a1, .ref a2, .ref a3, .ref a4, .int gg.hs, .ref a5, .ref a6, .ref a7, .int (nI gg.L), .int (nI gg.M), .int mm.pl, .ref a8, .int mm.sd])), (a1, .inl (cI, 49, .inl gg.r)), (a2, .inl (cI, 49, .inl (upd gg.r (oF t_2 i_4) x5))), (a3, .inl (cI, 49, .inl gg.im)), (a4, .inl (cI, 49, .inl mm.ws)), (a5, .inl (cI, 96, .inl gg.lt)), (a6, .inl (cI, 16, .inl gg.rw)), (a7, .inl (cI, 7, .inl gg.rf)), (a8, .inl (cI, 3, .inl mm.nb))] H := hP
            replace hD : va_D A [(a0, .inr (3, [.ref a1, .ref a2, .ref a3, .ref a4, .int gg.hs, .ref a5, .ref a6, .ref a7, .int (nI gg.L), .int (nI gg.M), .int mm.pl, .ref a8, .int mm.sd])), (a1, .inl (cI, 49, .inl gg.r)), (a2, .inl (cI, 49, .inl (upd gg.r (oF t_2 i_4) x5))), (a3, .inl (cI, 49, .inl gg.im)), (a4, .inl (cI, 49, .inl mm.ws)), (a5, .inl (cI, 96, .inl gg.lt)), (a6, .inl (cI, 16, .inl gg.rw)), (a7, .inl (cI, 7, .inl gg.rf)), (a8, .inl (cI, 3, .inl mm.nb))] := hD
            rw [← ef_34] at hP hD
            have hI_w9 : Inv gg.n f_34 := (by rw [ef_34]; exact hI.uo _ (by omega) (okv_01 hx5 (by omega)))
            refine lv_iconst (v := 0) hx hb dX4_whatWas_89 (by decide) ?_
            refine lv_istore (lv' := [(7, .int 0), (6, .int 1), (5, .int x5), (4, .int x4), (3, .int x_6), (0, .ref a0), (1, .int p0), (2, .int p1)]) hx hb dX4_whatWas_90 hl (by decide) rfl (fun ls hl => ?_)
            have lp_92_35 : ∀ (fu : Nat) (i : Nat) (x7 : Int32) (x6 : Int32) (f2 : RR) (ls : Array Slot) (H : Heap) (locs : List Loc), gg.M - i < fu → (x7 = nI i) → (i ≤ gg.M) → (x6 = if wwI f_34 gg.n x_6 gg.rw i = true then 1 else 0) → (f2 = dsR f_34 gg.n i) → va_P D vwCl [(a0, .inr (3, [.ref a1, .ref a2, .ref a3, .ref a4, .int gg.hs, .ref a5, .ref a6, .ref a7, .int (nI gg.L), .int (nI gg.M), .int mm.pl, .ref a8, .int mm.sd])), (a1, .inl (cI, 49, .inl gg.r)), (a2, .inl (cI, 49, .inl f2)), (a3, .inl (cI, 49, .inl gg.im)), (a4, .inl (cI, 49, .inl mm.ws)), (a5, .inl (cI, 96, .inl gg.lt)), (a6, .inl (cI, 16, .inl gg.rw)), (a7, .inl (cI, 7, .inl gg.rf)), (a8, .inl (cI, 3, .inl mm.nb))] H → va_D A [(a0, .inr (3, [.ref a1, .ref a2, .ref a3, .ref a4, .int gg.hs, .ref a5, .ref a6, .ref a7, .int (nI gg.L), .int (nI gg.M), .int mm.pl, .ref a8, .int mm.sd])), (a1, .inl (cI, 49, .inl gg.r)), (a2, .inl (cI, 49, .inl f2)), (a3, .inl (cI, 49, .inl gg.im)), (a4, .inl (cI, 49, .inl mm.ws)), (a5, .inl (cI, 96, .inl gg.lt)), (a6, .inl (cI, 16, .inl gg.rw)), (a7, .inl (cI, 7, .inl gg.rf)), (a8, .inl (cI, 3, .inl mm.nb))] → va_S A s.heap H locs → lv_has ls 9 [(7, .int x7), (6, .int x6), (5, .int x5), (4, .int x4), (3, .int x_6), (0, .ref a0), (1, .int p0), (2, .int p1)] → W p l e ({ frames := 6, cells := 0, slots := 0, locals := 132 }) s m [.ref a0, .int p0, .int p1].toArray below meth c H locs 0 0 Q (F0 m 92 ls []) := by
              intro fu
              induction fu with
              | zero =>
                intro i x7 x6 f2 ls H locs hfu
                exact absurd hfu (Nat.not_lt_zero _)
              | succ fu ih_35 =>
                intro i x7 x6 f2 ls H locs hfu hx7 hi hx6 hf2 hP hD hS hl
                have hI_f2 : Inv gg.n f2 := (by rw [hf2]; exact hI_w9.idsR _)
                refine lv_iload hx hb dX4_whatWas_92 (lv_at hl 0 rfl) ?_
                refine lv_aload_n hx hb dX4_whatWas_94 rfl (lv_at hl 5 rfl) ?_
                refine va_get (D := D) (ci := 3) (v := .int (nI gg.M)) (C := RX4) (T := TX4) (N := 13) hx hb hts hi_X4 hown hK.1 hP 0 rfl rfl 9 (by decide) hk_186 (fun _ h9 => h9) rfl dX4_whatWas_95 ?_
                refine lv_icmp_ge (tgt := 152) hx hb dX4_whatWas_98 (by decide) (fun c_36 => ?_) (fun c_36 => ?_)
                · skip
                  have n_36 : gg.M ≤ i := (ni_le (a := gg.M) (b := i) rfl hx7 (by omega) (by omega)).mp c_36
                  have d_36 : ¬ x7 < (nI gg.M) := Int32.not_lt.2 c_36
                  have m_36 : ¬ i < gg.M := by omega
                  refine lv_iload hx hb dX4_whatWas_152 (lv_at hl 3 rfl) ?_
                  refine lv_iload hx hb dX4_whatWas_154 (lv_at hl 1 rfl) ?_
                  refine lv_if_eq (tgt := 166) hx hb dX4_whatWas_156 (by decide) (fun c_37 => ?_) (fun c_37 => ?_)
                  · skip
                    refine lv_iconst (v := 0) hx hb dX4_whatWas_166 (by decide) ?_
                    refine lv_ior hx hb dX4_whatWas_167 ?_
                    refine lv_topi (fun x_38 ex_38 => ?_)
                    refine lv_istore (lv' := [(4, .int x_38), (7, .int x7), (6, .int x6), (5, .int x5), (3, .int x_6), (0, .ref a0), (1, .int p0), (2, .int p1)]) hx hb dX4_whatWas_168 hl (by decide) rfl (fun ls hl => ?_)
                    obtain ⟨x_39, ex_39⟩ : ∃ z : Int32, z = x5 + 1 := ⟨_, rfl⟩
                    refine lv_iinc (v := x_39) (lv' := [(5, .int x_39), (4, .int x_38), (7, .int x7), (6, .int x6), (3, .int x_6), (0, .ref a0), (1, .int p0), (2, .int p1)]) hx hb dX4_whatWas_170 hl (k := 3) rfl (by rw [ex_39]; rfl) (by decide) rfl (fun ls hl => ?_)
                    refine lv_goto (tgt := 47) hx hb dX4_whatWas_173 (by decide) ?_
                    exact ih_29 (j + 1) x_39 x_38 f2 _ _ _ (by omega) (ni_add (a := j) (b := 1) ex_39 hx5 (rfl : (1 : Int32) = nI 1)) (by omega) (by have e8 : i = gg.M := (by omega); rw [e8] at hx6; have q := bool_f hx6 c_37; rw [ef_34, hx5, ex_6] at q; rw [ex_38, hx4, wwF, if_neg (by rw [q]; decide)]) hP hD hS (lv_sub hl [0, 1, 4, 5, 6, 7] rfl)
                  refine lv_iconst (v := 1) hx hb dX4_whatWas_159 (by decide) ?_
                  refine lv_iload hx hb dX4_whatWas_160 (lv_at hl 2 rfl) ?_
                  refine lv_ishl hx hb dX4_whatWas_162 ?_
                  refine lv_goto (tgt := 167) hx hb dX4_whatWas_163 (by decide) ?_
                  refine lv_ior hx hb dX4_whatWas_167 ?_
                  refine lv_topi (fun x_40 ex_40 => ?_)
                  refine lv_istore (lv' := [(4, .int x_40), (7, .int x7), (6, .int x6), (5, .int x5), (3, .int x_6), (0, .ref a0), (1, .int p0), (2, .int p1)]) hx hb dX4_whatWas_168 hl (by decide) rfl (fun ls hl => ?_)
                  obtain ⟨x_41, ex_41⟩ : ∃ z : Int32, z = x5 + 1 := ⟨_, rfl⟩
                  refine lv_iinc (v := x_41) (lv' := [(5, .int x_41), (4, .int x_40), (7, .int x7), (6, .int x6), (3, .int x_6), (0, .ref a0), (1, .int p0), (2, .int p1)]) hx hb dX4_whatWas_170 hl (k := 3) rfl (by rw [ex_41]; rfl) (by decide) rfl (fun ls hl => ?_)
                  refine lv_goto (tgt := 47) hx hb dX4_whatWas_173 (by decide) ?_
                  exact ih_29 (j + 1) x_41 x_40 f2 _ _ _ (by omega) (ni_add (a := j) (b := 1) ex_41 hx5 (rfl : (1 : Int32) = nI 1)) (by omega) (by have e8 : i = gg.M := (by omega); rw [e8] at hx6; have q := bool_t hx6 c_37; rw [ef_34, hx5, ex_6] at q; rw [ex_40, hx4, wwF, if_pos q, hx5]) hP hD hS (lv_sub hl [0, 1, 4, 5, 6, 7] rfl)
                have n_36 : ¬ gg.M ≤ i := fun q => c_36 ((ni_le (a := gg.M) (b := i) rfl hx7 (by omega) (by omega)).mpr q)
                have d_36 : x7 < (nI gg.M) := Int32.not_le.1 c_36
                have m_36 : i < gg.M := by omega
                refine lv_iload hx hb dX4_whatWas_101 (lv_at hl 1 rfl) ?_
                refine lv_aload_n hx hb dX4_whatWas_103 rfl (lv_at hl 5 rfl) ?_
                refine va_get (D := D) (ci := 3) (v := .ref a2) (C := RX4) (T := TX4) (N := 13) hx hb hts hi_X4 hown hK.1 hP 0 rfl rfl 1 (by decide) hk_13 (fun _ h9 => h9) rfl dX4_whatWas_104 ?_
                refine lv_aload_n hx hb dX4_whatWas_107 rfl (lv_at hl 5 rfl) ?_
                refine va_get (D := D) (ci := 3) (v := .ref a2) (C := RX4) (T := TX4) (N := 13) hx hb hts hi_X4 hown hK.1 hP 0 rfl rfl 1 (by decide) hk_13 (fun _ h9 => h9) rfl dX4_whatWas_108 ?_
                refine lv_iload_n hx hb dX4_whatWas_111 rfl (lv_at hl 4 rfl) ?_
                refine xc_Si (As := [.ref a2, .int x_6]) (rest := [.ref a2, .int x6]) ⟨hx, hb, hml, hown, hts⟩ (kX4_nestIn l D cI a2 f2 gg.n hI_f2 x_6) (va_cwS 2 hts gX4_whatWas_X4_nestIn rfl rfl rfl hs_X4_nestIn ⟨Nat.le_of_ble_eq_true rfl, Nat.le_of_ble_eq_true rfl⟩) hK hP [2] rfl rfl hl.1 rfl (Nat.le_of_ble_eq_true rfl) dX4_whatWas_112 ⟨Nat.zero_le _, Nat.zero_le _⟩ (fun r_42 hr_42 => ?_)
                refine lv_iconst (v := 1) hx hb dX4_whatWas_115 (by decide) ?_
                refine xc_Si (As := [.ref a2, .int r_42, .int 1]) (rest := [.int x6]) ⟨hx, hb, hml, hown, hts⟩ (kX4_sumOf l D cI a2 f2 gg.n hI_f2 r_42 1) (va_cwS 3 hts gX4_whatWas_X4_sumOf rfl rfl rfl hs_X4_sumOf ⟨Nat.le_of_ble_eq_true rfl, Nat.le_of_ble_eq_true rfl⟩) hK hP [2] rfl rfl hl.1 rfl (Nat.le_of_ble_eq_true rfl) dX4_whatWas_116 ⟨Nat.zero_le _, Nat.zero_le _⟩ (fun r_43 hr_43 => ?_)
                refine lv_aload_n hx hb dX4_whatWas_119 rfl (lv_at hl 5 rfl) ?_
                refine va_get (D := D) (ci := 3) (v := .ref a6) (C := RX4) (T := TX4) (N := 13) hx hb hts hi_X4 hown hK.1 hP 0 rfl rfl 6 (by decide) hk_25 (fun _ h9 => h9) rfl dX4_whatWas_120 ?_
                refine lv_iload hx hb dX4_whatWas_123 (lv_at hl 0 rfl) ?_
                refine xa_ld hx hb hK hP 6 rfl (j := i) hx7 (by omega) (by decide) dX4_whatWas_125 ?_
                refine lv_icmp_ne (tgt := 133) hx hb dX4_whatWas_126 (by decide) (fun c_44 => ?_) (fun c_44 => ?_)
                · skip
                  refine lv_iconst (v := 0) hx hb dX4_whatWas_133 (by decide) ?_
                  refine lv_iand hx hb dX4_whatWas_134 ?_
                  refine lv_topi (fun x_45 ex_45 => ?_)
                  refine lv_istore (lv' := [(6, .int x_45), (7, .int x7), (5, .int x5), (4, .int x4), (3, .int x_6), (0, .ref a0), (1, .int p0), (2, .int p1)]) hx hb dX4_whatWas_135 hl (by decide) rfl (fun ls hl => ?_)
                  refine lv_aload_n hx hb dX4_whatWas_137 rfl (lv_at hl 5 rfl) ?_
                  refine va_get (D := D) (ci := 3) (v := .ref a2) (C := RX4) (T := TX4) (N := 13) hx hb hts hi_X4 hown hK.1 hP 0 rfl rfl 1 (by decide) hk_13 (fun _ h9 => h9) rfl dX4_whatWas_138 ?_
                  refine xw_Si (As := [.ref a2]) (rest := []) (Wn := fun u => [(a0, .inr (3, [.ref a1, .ref a2, .ref a3, .ref a4, .int gg.hs, .ref a5, .ref a6, .ref a7, .int (nI gg.L), .int (nI gg.M), .int mm.pl, .ref a8, .int mm.sd])), (a1, .inl (cI, 49, .inl gg.r)), (a2, .inl (cI, 49, .inl u)), (a3, .inl (cI, 49, .inl gg.im)), (a4, .inl (cI, 49, .inl mm.ws)), (a5, .inl (cI, 96, .inl gg.lt)), (a6, .inl (cI, 16, .inl gg.rw)), (a7, .inl (cI, 7, .inl gg.rf)), (a8, .inl (cI, 3, .inl mm.nb))]) (Wr := [(a0, .inr (3, [.ref a1, .ref a2, .ref a3, .ref a4, .int gg.hs, .ref a5, .ref a6, .ref a7, .int (nI gg.L), .int (nI gg.M), .int mm.pl, .ref a8, .int mm.sd])), (a1, .inl (cI, 49, .inl gg.r)), (a3, .inl (cI, 49, .inl gg.im)), (a4, .inl (cI, 49, .inl mm.ws)), (a5, .inl (cI, 96, .inl gg.lt)), (a6, .inl (cI, 16, .inl gg.rw)), (a7, .inl (cI, 7, .inl gg.rf)), (a8, .inl (cI, 3, .inl mm.nb))]) ⟨hx, hb, hml, hown, hts⟩ (kX4_day l D cI H.size a2 f2 gg.n hI_f2) (va_cwS 1 hts gX4_whatWas_X4_day rfl rfl rfl hs_X4_day ⟨Nat.le_of_ble_eq_true rfl, Nat.le_of_ble_eq_true rfl⟩) hK hP hD hS hA [2] [0, 1, 3, 4, 5, 6, 7, 8] [0, 1, 8, 2, 3, 4, 5, 6, 7] rfl rfl (by decide) (by decide) (by decide) (by decide) (fun u => rfl) rfl hl.1 rfl (Nat.le_of_ble_eq_true rfl) dX4_whatWas_141 ⟨Nat.zero_le _, Nat.zero_le _⟩ (fun r_46 u_46 H locs hw_46 hP hD hS => ?_)
                  obtain ⟨hr_46, hu_46⟩ := hw_46
                  have hI_u_46 : Inv gg.n u_46 := (by rw [hu_46]; exact hI_f2.idayR)
                  refine lv_istore (lv' := [(8, .int r_46), (6, .int x_45), (7, .int x7), (5, .int x5), (4, .int x4), (3, .int x_6), (0, .ref a0), (1, .int p0), (2, .int p1)]) hx hb dX4_whatWas_144 hl (by decide) rfl (fun ls hl => ?_)
                  obtain ⟨x_47, ex_47⟩ : ∃ z : Int32, z = x7 + 1 := ⟨_, rfl⟩
                  refine lv_iinc (v := x_47) (lv' := [(7, .int x_47), (8, .int r_46), (6, .int x_45), (5, .int x5), (4, .int x4), (3, .int x_6), (0, .ref a0), (1, .int p0), (2, .int p1)]) hx hb dX4_whatWas_146 hl (k := 2) rfl (by rw [ex_47]; rfl) (by decide) rfl (fun ls hl => ?_)
                  refine lv_goto (tgt := 92) hx hb dX4_whatWas_149 (by decide) ?_
                  exact ih_35 (i + 1) x_47 x_45 u_46 _ _ _ (by omega) (ni_add (a := i) (b := 1) ex_47 hx7 (rfl : (1 : Int32) = nI 1)) (by omega) (by rw [ex_45, hx6, ww_f (by rw [← hf2, ← hr_42, ← hr_43]; exact c_44)]; exact b_and0 _) (by rw [dsR, ← hf2]; exact hu_46) hP hD hS (lv_sub hl [0, 2, 3, 4, 5, 6, 7, 8] rfl)
                refine lv_iconst (v := 1) hx hb dX4_whatWas_129 (by decide) ?_
                refine lv_goto (tgt := 134) hx hb dX4_whatWas_130 (by decide) ?_
                refine lv_iand hx hb dX4_whatWas_134 ?_
                refine lv_topi (fun x_48 ex_48 => ?_)
                refine lv_istore (lv' := [(6, .int x_48), (7, .int x7), (5, .int x5), (4, .int x4), (3, .int x_6), (0, .ref a0), (1, .int p0), (2, .int p1)]) hx hb dX4_whatWas_135 hl (by decide) rfl (fun ls hl => ?_)
                refine lv_aload_n hx hb dX4_whatWas_137 rfl (lv_at hl 5 rfl) ?_
                refine va_get (D := D) (ci := 3) (v := .ref a2) (C := RX4) (T := TX4) (N := 13) hx hb hts hi_X4 hown hK.1 hP 0 rfl rfl 1 (by decide) hk_13 (fun _ h9 => h9) rfl dX4_whatWas_138 ?_
                refine xw_Si (As := [.ref a2]) (rest := []) (Wn := fun u => [(a0, .inr (3, [.ref a1, .ref a2, .ref a3, .ref a4, .int gg.hs, .ref a5, .ref a6, .ref a7, .int (nI gg.L), .int (nI gg.M), .int mm.pl, .ref a8, .int mm.sd])), (a1, .inl (cI, 49, .inl gg.r)), (a2, .inl (cI, 49, .inl u)), (a3, .inl (cI, 49, .inl gg.im)), (a4, .inl (cI, 49, .inl mm.ws)), (a5, .inl (cI, 96, .inl gg.lt)), (a6, .inl (cI, 16, .inl gg.rw)), (a7, .inl (cI, 7, .inl gg.rf)), (a8, .inl (cI, 3, .inl mm.nb))]) (Wr := [(a0, .inr (3, [.ref a1, .ref a2, .ref a3, .ref a4, .int gg.hs, .ref a5, .ref a6, .ref a7, .int (nI gg.L), .int (nI gg.M), .int mm.pl, .ref a8, .int mm.sd])), (a1, .inl (cI, 49, .inl gg.r)), (a3, .inl (cI, 49, .inl gg.im)), (a4, .inl (cI, 49, .inl mm.ws)), (a5, .inl (cI, 96, .inl gg.lt)), (a6, .inl (cI, 16, .inl gg.rw)), (a7, .inl (cI, 7, .inl gg.rf)), (a8, .inl (cI, 3, .inl mm.nb))]) ⟨hx, hb, hml, hown, hts⟩ (kX4_day l D cI H.size a2 f2 gg.n hI_f2) (va_cwS 1 hts gX4_whatWas_X4_day rfl rfl rfl hs_X4_day ⟨Nat.le_of_ble_eq_true rfl, Nat.le_of_ble_eq_true rfl⟩) hK hP hD hS hA [2] [0, 1, 3, 4, 5, 6, 7, 8] [0, 1, 8, 2, 3, 4, 5, 6, 7] rfl rfl (by decide) (by decide) (by decide) (by decide) (fun u => rfl) rfl hl.1 rfl (Nat.le_of_ble_eq_true rfl) dX4_whatWas_141 ⟨Nat.zero_le _, Nat.zero_le _⟩ (fun r_49 u_49 H locs hw_49 hP hD hS => ?_)
                obtain ⟨hr_49, hu_49⟩ := hw_49
                have hI_u_49 : Inv gg.n u_49 := (by rw [hu_49]; exact hI_f2.idayR)
                refine lv_istore (lv' := [(8, .int r_49), (6, .int x_48), (7, .int x7), (5, .int x5), (4, .int x4), (3, .int x_6), (0, .ref a0), (1, .int p0), (2, .int p1)]) hx hb dX4_whatWas_144 hl (by decide) rfl (fun ls hl => ?_)
                obtain ⟨x_50, ex_50⟩ : ∃ z : Int32, z = x7 + 1 := ⟨_, rfl⟩
                refine lv_iinc (v := x_50) (lv' := [(7, .int x_50), (8, .int r_49), (6, .int x_48), (5, .int x5), (4, .int x4), (3, .int x_6), (0, .ref a0), (1, .int p0), (2, .int p1)]) hx hb dX4_whatWas_146 hl (k := 2) rfl (by rw [ex_50]; rfl) (by decide) rfl (fun ls hl => ?_)
                refine lv_goto (tgt := 92) hx hb dX4_whatWas_149 (by decide) ?_
                exact ih_35 (i + 1) x_50 x_48 u_49 _ _ _ (by omega) (ni_add (a := i) (b := 1) ex_50 hx7 (rfl : (1 : Int32) = nI 1)) (by omega) (by rw [ex_48, hx6, ww_t (by rw [← hf2, ← hr_42, ← hr_43]; exact c_44)]; exact b_and1 _) (by rw [dsR, ← hf2]; exact hu_49) hP hD hS (lv_sub hl [0, 2, 3, 4, 5, 6, 7, 8] rfl)
            exact lp_92_35 ((gg.M - 0) + 1) 0 0 1 f_34 _ _ _ (by omega) (rfl : (0 : Int32) = nI 0) (by omega) rfl rfl hP hD hS (lv_sub hl [0, 1, 2, 3, 4, 5, 6, 7] rfl)
          exact absurd c_30 c_0
      exact lp_47_29 ((10 - 0) + 1) 0 0 0 mm.m _ _ _ (by omega) (rfl : (0 : Int32) = nI 0) (by omega) rfl hP hD hS (lv_sub hl [0, 1, 2, 3, 4, 5] rfl)
    have hb_4 : isI p1 0 1 = false := bool_f (hr_3.trans isI_ite) c_4
    refine lv_aload_n hx hb dX4_whatWas_23 rfl (lv_at hl 0 rfl) ?_
    refine lv_bipush (v := (-2)) hx hb dX4_whatWas_24 (by decide) ?_
    refine xw_Vi (As := [.int (-2)]) (rest := []) (Wn := fun u => [(a0, .inr (3, [.ref a1, .ref a2, .ref a3, .ref a4, .int gg.hs, .ref a5, .ref a6, .ref a7, .int (nI gg.L), .int (nI gg.M), .int mm.pl, .ref a8, .int mm.sd])), (a1, .inl (cI, 49, .inl gg.r)), (a2, .inl (cI, 49, .inl mm.m)), (a3, .inl (cI, 49, .inl gg.im)), (a4, .inl (cI, 49, .inl mm.ws)), (a5, .inl (cI, 96, .inl gg.lt)), (a6, .inl (cI, 16, .inl gg.rw)), (a7, .inl (cI, 7, .inl (upd gg.rf (cN (-2)) (gg.rf (cN (-2)) + 1)))), (a8, .inl (cI, 3, .inl mm.nb))]) (Wr := [(a1, .inl (cI, 49, .inl gg.r)), (a2, .inl (cI, 49, .inl mm.m)), (a3, .inl (cI, 49, .inl gg.im)), (a4, .inl (cI, 49, .inl mm.ws)), (a5, .inl (cI, 96, .inl gg.lt)), (a6, .inl (cI, 16, .inl gg.rw)), (a8, .inl (cI, 3, .inl mm.nb))]) ⟨hx, hb, hml, hown, hts⟩ (kX4_no l D cI H.size a0 a1 a2 a3 a4 a5 a6 a7 a8 gg mm (-2) okc_2) (cwV 1 hts gX4_whatWas_X4_no rfl rfl rfl hv_X4_no ⟨Nat.le_of_ble_eq_true rfl, Nat.le_of_ble_eq_true rfl⟩) hK hP hD hS hA [0, 7] [1, 2, 3, 4, 5, 6, 8] [7, 0, 1, 2, 3, 4, 5, 8, 6] rfl rfl (by decide) (by decide) (by decide) (by decide) (fun u => rfl) 0 rfl rfl rfl hl.1 rfl (Nat.le_of_ble_eq_true rfl) dX4_whatWas_26 ⟨Nat.zero_le _, Nat.zero_le _⟩ (fun r_51 u_51 H locs hw_51 hP hD hS => ?_)
    exact hret 29 _ r_51 ((gg.n, gg.r, gg.m, gg.im, gg.hs, gg.lt, gg.L, gg.rw, gg.M, (upd gg.rf (cN (-2)) (gg.rf (cN (-2)) + 1))), mm) _ _ dX4_whatWas_29 (by first | (simp [sp_whatWas, rfz, us, c_2, c_4, hb_2, tn_2, hb_4, hw_51]; done) | (simp [sp_whatWas, rfz, us, c_2, c_4, hb_2, tn_2, hb_4, hw_51, isI]; done) | (simp [sp_whatWas, rfz, us, c_2, c_4, hb_2, tn_2, hb_4, hw_51, wrB, lackF]; done)) hP hD hS
  have hb_2 : sayB gg.n p0 = false := bool_f hr_1 c_2
  refine lv_aload_n hx hb dX4_whatWas_8 rfl (lv_at hl 0 rfl) ?_
  refine lv_iconst (v := (-1)) hx hb dX4_whatWas_9 (by decide) ?_
  refine xw_Vi (As := [.int (-1)]) (rest := []) (Wn := fun u => [(a0, .inr (3, [.ref a1, .ref a2, .ref a3, .ref a4, .int gg.hs, .ref a5, .ref a6, .ref a7, .int (nI gg.L), .int (nI gg.M), .int mm.pl, .ref a8, .int mm.sd])), (a1, .inl (cI, 49, .inl gg.r)), (a2, .inl (cI, 49, .inl mm.m)), (a3, .inl (cI, 49, .inl gg.im)), (a4, .inl (cI, 49, .inl mm.ws)), (a5, .inl (cI, 96, .inl gg.lt)), (a6, .inl (cI, 16, .inl gg.rw)), (a7, .inl (cI, 7, .inl (upd gg.rf (cN (-1)) (gg.rf (cN (-1)) + 1)))), (a8, .inl (cI, 3, .inl mm.nb))]) (Wr := [(a1, .inl (cI, 49, .inl gg.r)), (a2, .inl (cI, 49, .inl mm.m)), (a3, .inl (cI, 49, .inl gg.im)), (a4, .inl (cI, 49, .inl mm.ws)), (a5, .inl (cI, 96, .inl gg.lt)), (a6, .inl (cI, 16, .inl gg.rw)), (a8, .inl (cI, 3, .inl mm.nb))]) ⟨hx, hb, hml, hown, hts⟩ (kX4_no l D cI H.size a0 a1 a2 a3 a4 a5 a6 a7 a8 gg mm (-1) okc_1) (cwV 1 hts gX4_whatWas_X4_no rfl rfl rfl hv_X4_no ⟨Nat.le_of_ble_eq_true rfl, Nat.le_of_ble_eq_true rfl⟩) hK hP hD hS hA [0, 7] [1, 2, 3, 4, 5, 6, 8] [7, 0, 1, 2, 3, 4, 5, 8, 6] rfl rfl (by decide) (by decide) (by decide) (by decide) (fun u => rfl) 0 rfl rfl rfl hl.1 rfl (Nat.le_of_ble_eq_true rfl) dX4_whatWas_10 ⟨Nat.zero_le _, Nat.zero_le _⟩ (fun r_52 u_52 H locs hw_52 hP hD hS => ?_)
  exact hret 13 _ r_52 ((gg.n, gg.r, gg.m, gg.im, gg.hs, gg.lt, gg.L, gg.rw, gg.M, (upd gg.rf (cN (-1)) (gg.rf (cN (-1)) + 1))), mm) _ _ dX4_whatWas_13 (by first | (simp [sp_whatWas, rfz, us, c_2, hb_2, hw_52]; done) | (simp [sp_whatWas, rfz, us, c_2, hb_2, hw_52, isI]; done) | (simp [sp_whatWas, rfz, us, c_2, hb_2, hw_52, wrB, lackF]; done)) hP hD hS

set_option maxHeartbeats 4000000 in
set_option maxRecDepth 100000 in
theorem kX4_judge (l : Launch) (D : va_G) (cI : ClassId) (sz : Nat) (a0 a1 a2 a3 a4 a5 a6 a7 a8 : Nat) (gg : GG) (mm : MS) (hG : Good gg) : Met l yX4_judge wsX4_judge ({ frames := 6, cells := 0, slots := 0, locals := 132 }) (PRW D cI [.ref a0] [(a0, .inr (3, [.ref a1, .ref a2, .ref a3, .ref a4, .int gg.hs, .ref a5, .ref a6, .ref a7, .int (nI gg.L), .int (nI gg.M), .int mm.pl, .ref a8, .int mm.sd])), (a1, .inl (cI, 49, .inl gg.r)), (a2, .inl (cI, 49, .inl mm.m)), (a3, .inl (cI, 49, .inl gg.im)), (a4, .inl (cI, 49, .inl mm.ws)), (a5, .inl (cI, 96, .inl gg.lt)), (a6, .inl (cI, 16, .inl gg.rw)), (a7, .inl (cI, 7, .inl gg.rf)), (a8, .inl (cI, 3, .inl mm.nb))] sz) (va_Qi (S := GG × MS) (fun v u => (v, u.1) = sp_judge gg) (BRW D [(a0, .inr (3, [.ref a1, .ref a2, .ref a3, .ref a4, .int gg.hs, .ref a5, .ref a6, .ref a7, .int (nI gg.L), .int (nI gg.M), .int mm.pl, .ref a8, .int mm.sd])), (a1, .inl (cI, 49, .inl gg.r)), (a2, .inl (cI, 49, .inl mm.m)), (a3, .inl (cI, 49, .inl gg.im)), (a4, .inl (cI, 49, .inl mm.ws)), (a5, .inl (cI, 96, .inl gg.lt)), (a6, .inl (cI, 16, .inl gg.rw)), (a7, .inl (cI, 7, .inl gg.rf)), (a8, .inl (cI, 3, .inl mm.nb))] sz (fun u => [(a0, .inr (3, [.ref a1, .ref a2, .ref a3, .ref a4, .int u.1.hs, .ref a5, .ref a6, .ref a7, .int (nI u.1.L), .int (nI u.1.M), .int u.2.pl, .ref a8, .int u.2.sd])), (a1, .inl (cI, 49, .inl u.1.r)), (a2, .inl (cI, 49, .inl u.2.m)), (a3, .inl (cI, 49, .inl u.1.im)), (a4, .inl (cI, 49, .inl u.2.ws)), (a5, .inl (cI, 96, .inl u.1.lt)), (a6, .inl (cI, 16, .inl u.1.rw)), (a7, .inl (cI, 7, .inl u.1.rf)), (a8, .inl (cI, 3, .inl u.2.nb))])) (va_A [(a0, .inr (3, [.ref a1, .ref a2, .ref a3, .ref a4, .int gg.hs, .ref a5, .ref a6, .ref a7, .int (nI gg.L), .int (nI gg.M), .int mm.pl, .ref a8, .int mm.sd])), (a1, .inl (cI, 49, .inl gg.r)), (a2, .inl (cI, 49, .inl mm.m)), (a3, .inl (cI, 49, .inl gg.im)), (a4, .inl (cI, 49, .inl mm.ws)), (a5, .inl (cI, 96, .inl gg.lt)), (a6, .inl (cI, 16, .inl gg.rw)), (a7, .inl (cI, 7, .inl gg.rf)), (a8, .inl (cI, 3, .inl mm.nb))] sz)) 0 0 (va_A [(a0, .inr (3, [.ref a1, .ref a2, .ref a3, .ref a4, .int gg.hs, .ref a5, .ref a6, .ref a7, .int (nI gg.L), .int (nI gg.M), .int mm.pl, .ref a8, .int mm.sd])), (a1, .inl (cI, 49, .inl gg.r)), (a2, .inl (cI, 49, .inl mm.m)), (a3, .inl (cI, 49, .inl gg.im)), (a4, .inl (cI, 49, .inl mm.ws)), (a5, .inl (cI, 96, .inl gg.lt)), (a6, .inl (cI, 16, .inl gg.rw)), (a7, .inl (cI, 7, .inl gg.rf)), (a8, .inl (cI, 3, .inl mm.nb))] sz) := by
  refine st_rwi (cc := cX4_judge) (maxL := 4) (rt := .int) (by decide) rfl (Nat.le_of_ble_eq_true rfl) (fun _ _ _ => rfl) ?_
  intro p e s m below meth c Q ls A hx hb hml hts hown hP hK hD hA hS hl hret
  replace hown : s.vm.findClass RX4 = some m.cls := hown
  replace hl : lv_has ls 4 [(0, .ref a0)] := hl
  obtain ⟨H, hH⟩ : ∃ z, z = s.heap := ⟨_, rfl⟩
  obtain ⟨locs, hlo⟩ : ∃ z : List Loc, z = [] := ⟨_, rfl⟩
  replace hP : va_P D vwCl [(a0, .inr (3, [.ref a1, .ref a2, .ref a3, .ref a4, .int gg.hs, .ref a5, .ref a6, .ref a7, .int (nI gg.L), .int (nI gg.M), .int mm.pl, .ref a8, .int mm.sd])), (a1, .inl (cI, 49, .inl gg.r)), (a2, .inl (cI, 49, .inl mm.m)), (a3, .inl (cI, 49, .inl gg.im)), (a4, .inl (cI, 49, .inl mm.ws)), (a5, .inl (cI, 96, .inl gg.lt)), (a6, .inl (cI, 16, .inl gg.rw)), (a7, .inl (cI, 7, .inl gg.rf)), (a8, .inl (cI, 3, .inl mm.nb))] H := by rw [hH]; exact hP
  replace hS : va_S A s.heap H locs := by rw [hH, hlo]; exact hS
  show W p l e ({ frames := 6, cells := 0, slots := 0, locals := 132 }) s m [.ref a0].toArray below meth c s.heap [] 0 0 Q (F0 m 0 ls [])
  rw [← hlo]
  suffices hgo : W p l e ({ frames := 6, cells := 0, slots := 0, locals := 132 }) s m [.ref a0].toArray below meth c H locs 0 0 Q (F0 m 0 ls []) by rw [hH] at hgo; exact hgo
  clear hH hlo
  have hi_X4 : ∀ w ∈ wsX40, w ∈ wsX4_judge := fun w h => List.mem_cons_of_mem _ (List.mem_append_right _ (h))
  have hk_186 := hts (.fieldLink RX4 186 "NestsOfTalkModel" "rowMany" "I") (List.mem_of_getElem? (i := 1) rfl)
  have hk_9 := hts (.fieldLink RX4 9 "NestsOfTalkModel" "s" "[I") (List.mem_of_getElem? (i := 2) rfl)
  have hk_13 := hts (.fieldLink RX4 13 "NestsOfTalkModel" "m" "[I") (List.mem_of_getElem? (i := 3) rfl)
  have hk_25 := hts (.fieldLink RX4 25 "NestsOfTalkModel" "row" "[I") (List.mem_of_getElem? (i := 4) rfl)
  have hI := hG.inv
  have hn9 := hI.le
  have hL96 := hG.L96
  have hM16 := hG.M16
  refine lv_aload_n hx hb dX4_judge_0 rfl (lv_at hl 0 rfl) ?_
  refine va_get (D := D) (ci := 3) (v := .int (nI gg.M)) (C := RX4) (T := TX4) (N := 13) hx hb hts hi_X4 hown hK.1 hP 0 rfl rfl 9 (by decide) hk_186 (fun _ h9 => h9) rfl dX4_judge_1 ?_
  refine lv_topi (fun x_1 ex_1 => ?_)
  refine lv_istore_n (lv' := [(1, .int x_1), (0, .ref a0)]) hx hb dX4_judge_4 rfl hl (by decide) rfl (fun ls hl => ?_)
  refine lv_aload_n hx hb dX4_judge_5 rfl (lv_at hl 1 rfl) ?_
  refine lv_iconst (v := 0) hx hb dX4_judge_6 (by decide) ?_
  refine va_put (D := D) (ci := 3) (v := .int 0) (ty := .int) (C := RX4) (T := TX4) (N := 13) hx hb hts hi_X4 tyX4 tyX4_ok nmX4 hown hK.1 hP hD hS 0 rfl rfl 9 (by decide) hk_186 (fun _ h9 => h9) rfl pd_I rfl rfl (Nat.le_of_ble_eq_true rfl) dX4_judge_7 (fun H locs hP hD hS => ?_)
  have hP : va_P D vwCl [(a0, .inr (3, [.ref a1, .ref a2, .ref a3, .ref a4, .int gg.hs, .ref a5, .ref a6, .ref a7, .int (nI gg.L), .int 0, .int mm.pl, .ref a8, .int mm.sd])), (a1, .inl (cI, 49, .inl gg.r)), (a2, .inl (cI, 49, .inl mm.m)), (a3, .inl (cI, 49, .inl gg.im)), (a4, .inl (cI, 49, .inl mm.ws)), (a5, .inl (cI, 96, .inl gg.lt)), (a6, .inl (cI, 16, .inl gg.rw)), (a7, .inl (cI, 7, .inl gg.rf)), (a8, .inl (cI, 3, .inl mm.nb))] H := hP
  have hD : va_D A [(a0, .inr (3, [.ref a1, .ref a2, .ref a3, .ref a4, .int gg.hs, .ref a5, .ref a6, .ref a7, .int (nI gg.L), .int 0, .int mm.pl, .ref a8, .int mm.sd])), (a1, .inl (cI, 49, .inl gg.r)), (a2, .inl (cI, 49, .inl mm.m)), (a3, .inl (cI, 49, .inl gg.im)), (a4, .inl (cI, 49, .inl mm.ws)), (a5, .inl (cI, 96, .inl gg.lt)), (a6, .inl (cI, 16, .inl gg.rw)), (a7, .inl (cI, 7, .inl gg.rf)), (a8, .inl (cI, 3, .inl mm.nb))] := hD
  refine lv_aload_n hx hb dX4_judge_10 rfl (lv_at hl 1 rfl) ?_
  refine va_get (D := D) (ci := 3) (v := .ref a1) (C := RX4) (T := TX4) (N := 13) hx hb hts hi_X4 hown hK.1 hP 0 rfl rfl 0 (by decide) hk_9 (fun _ h9 => h9) rfl dX4_judge_11 ?_
  refine lv_aload_n hx hb dX4_judge_14 rfl (lv_at hl 1 rfl) ?_
  refine va_get (D := D) (ci := 3) (v := .ref a2) (C := RX4) (T := TX4) (N := 13) hx hb hts hi_X4 hown hK.1 hP 0 rfl rfl 1 (by decide) hk_13 (fun _ h9 => h9) rfl dX4_judge_15 ?_
  refine xw_Sv (As := [.ref a1, .ref a2]) (rest := []) (Wn := fun u => [(a0, .inr (3, [.ref a1, .ref a2, .ref a3, .ref a4, .int gg.hs, .ref a5, .ref a6, .ref a7, .int (nI gg.L), .int 0, .int mm.pl, .ref a8, .int mm.sd])), (a1, .inl (cI, 49, .inl gg.r)), (a2, .inl (cI, 49, .inl gg.r)), (a3, .inl (cI, 49, .inl gg.im)), (a4, .inl (cI, 49, .inl mm.ws)), (a5, .inl (cI, 96, .inl gg.lt)), (a6, .inl (cI, 16, .inl gg.rw)), (a7, .inl (cI, 7, .inl gg.rf)), (a8, .inl (cI, 3, .inl mm.nb))]) (Wr := [(a0, .inr (3, [.ref a1, .ref a2, .ref a3, .ref a4, .int gg.hs, .ref a5, .ref a6, .ref a7, .int (nI gg.L), .int 0, .int mm.pl, .ref a8, .int mm.sd])), (a3, .inl (cI, 49, .inl gg.im)), (a4, .inl (cI, 49, .inl mm.ws)), (a5, .inl (cI, 96, .inl gg.lt)), (a6, .inl (cI, 16, .inl gg.rw)), (a7, .inl (cI, 7, .inl gg.rf)), (a8, .inl (cI, 3, .inl mm.nb))]) ⟨hx, hb, hml, hown, hts⟩ (kX4_copies l D cI H.size a1 a2 gg.r mm.m) (va_cwS 2 hts gX4_judge_X4_copies rfl rfl rfl hs_X4_copies ⟨Nat.le_of_ble_eq_true rfl, Nat.le_of_ble_eq_true rfl⟩) hK hP hD hS hA [1, 2] [0, 3, 4, 5, 6, 7, 8] [0, 7, 8, 1, 2, 3, 4, 5, 6] rfl rfl (by decide) (by decide) (by decide) (by decide) (fun u => rfl) rfl hl.1 rfl (Nat.le_of_ble_eq_true rfl) dX4_judge_18 ⟨Nat.zero_le _, Nat.zero_le _⟩ (fun u_2 H locs hw_2 hP hD hS => ?_)
  refine lv_iconst (v := 0) hx hb dX4_judge_21 (by decide) ?_
  refine lv_istore_n (lv' := [(2, .int 0), (1, .int x_1), (0, .ref a0)]) hx hb dX4_judge_22 rfl hl (by decide) rfl (fun ls hl => ?_)
  have lp_23_3 : ∀ (fu : Nat) (i : Nat) (x2 : Int32) (f : RR) (ls : Array Slot) (H : Heap) (locs : List Loc), gg.M - i < fu → (x2 = nI i) → (i ≤ gg.M) → (f = dsR gg.r gg.n i) → (∀ j, j < i → juP gg.r gg.n gg.rw j = false) → va_P D vwCl [(a0, .inr (3, [.ref a1, .ref a2, .ref a3, .ref a4, .int gg.hs, .ref a5, .ref a6, .ref a7, .int (nI gg.L), .int 0, .int mm.pl, .ref a8, .int mm.sd])), (a1, .inl (cI, 49, .inl gg.r)), (a2, .inl (cI, 49, .inl f)), (a3, .inl (cI, 49, .inl gg.im)), (a4, .inl (cI, 49, .inl mm.ws)), (a5, .inl (cI, 96, .inl gg.lt)), (a6, .inl (cI, 16, .inl gg.rw)), (a7, .inl (cI, 7, .inl gg.rf)), (a8, .inl (cI, 3, .inl mm.nb))] H → va_D A [(a0, .inr (3, [.ref a1, .ref a2, .ref a3, .ref a4, .int gg.hs, .ref a5, .ref a6, .ref a7, .int (nI gg.L), .int 0, .int mm.pl, .ref a8, .int mm.sd])), (a1, .inl (cI, 49, .inl gg.r)), (a2, .inl (cI, 49, .inl f)), (a3, .inl (cI, 49, .inl gg.im)), (a4, .inl (cI, 49, .inl mm.ws)), (a5, .inl (cI, 96, .inl gg.lt)), (a6, .inl (cI, 16, .inl gg.rw)), (a7, .inl (cI, 7, .inl gg.rf)), (a8, .inl (cI, 3, .inl mm.nb))] → va_S A s.heap H locs → lv_has ls 4 [(2, .int x2), (1, .int x_1), (0, .ref a0)] → W p l e ({ frames := 6, cells := 0, slots := 0, locals := 132 }) s m [.ref a0].toArray below meth c H locs 0 0 Q (F0 m 23 ls []) := by
    intro fu
    induction fu with
    | zero =>
      intro i x2 f ls H locs hfu
      exact absurd hfu (Nat.not_lt_zero _)
    | succ fu ih_3 =>
      intro i x2 f ls H locs hfu hx2 hi hf hj hP hD hS hl
      have hI_f : Inv gg.n f := (by rw [hf]; exact hI.idsR _)
      refine lv_iload_n hx hb dX4_judge_23 rfl (lv_at hl 0 rfl) ?_
      refine lv_iload_n hx hb dX4_judge_24 rfl (lv_at hl 1 rfl) ?_
      refine lv_icmp_ge (tgt := 63) hx hb dX4_judge_25 (by decide) (fun c_4 => ?_) (fun c_4 => ?_)
      · skip
        have n_4 : gg.M ≤ i := (ni_le (a := gg.M) (b := i) (ex_1.trans rfl) hx2 (by omega) (by omega)).mp c_4
        have d_4 : ¬ x2 < x_1 := Int32.not_lt.2 c_4
        have m_4 : ¬ i < gg.M := by omega
        refine lv_bipush (v := (-9)) hx hb dX4_judge_63 (by decide) ?_
        exact hret 65 _ (-9) ((gg.n, gg.r, gg.m, gg.im, gg.hs, gg.lt, gg.L, gg.rw, 0, gg.rf), (f, mm.ws, mm.nb, mm.pl, mm.sd)) _ _ dX4_judge_65 (by have e9 : i = gg.M := (by omega); rw [e9] at hj; simp [sp_judge, ff_none hj]) hP hD hS
      have n_4 : ¬ gg.M ≤ i := fun q => c_4 ((ni_le (a := gg.M) (b := i) (ex_1.trans rfl) hx2 (by omega) (by omega)).mpr q)
      have d_4 : x2 < x_1 := Int32.not_le.1 c_4
      have m_4 : i < gg.M := by omega
      refine lv_aload_n hx hb dX4_judge_28 rfl (lv_at hl 2 rfl) ?_
      refine va_get (D := D) (ci := 3) (v := .ref a2) (C := RX4) (T := TX4) (N := 13) hx hb hts hi_X4 hown hK.1 hP 0 rfl rfl 1 (by decide) hk_13 (fun _ h9 => h9) rfl dX4_judge_29 ?_
      refine xc_Si (As := [.ref a2]) (rest := []) ⟨hx, hb, hml, hown, hts⟩ (kX4_inNests l D cI a2 f gg.n hI_f) (va_cwS 1 hts gX4_judge_X4_inNests rfl rfl rfl hs_X4_inNests ⟨Nat.le_of_ble_eq_true rfl, Nat.le_of_ble_eq_true rfl⟩) hK hP [2] rfl rfl hl.1 rfl (Nat.le_of_ble_eq_true rfl) dX4_judge_32 ⟨Nat.zero_le _, Nat.zero_le _⟩ (fun r_5 hr_5 => ?_)
      refine xc_Si (As := [.int r_5]) (rest := []) ⟨hx, hb, hml, hown, hts⟩ (kX4_bits l D cI r_5) (va_cwS 1 hts gX4_judge_X4_bits rfl rfl rfl hs_X4_bits ⟨Nat.le_of_ble_eq_true rfl, Nat.le_of_ble_eq_true rfl⟩) hK hP [] rfl rfl hl.1 rfl (Nat.le_of_ble_eq_true rfl) dX4_judge_35 ⟨Nat.zero_le _, Nat.zero_le _⟩ (fun r_6 hr_6 => ?_)
      have hcl_6 := cntN_le r_5 10
      refine lv_aload_n hx hb dX4_judge_38 rfl (lv_at hl 2 rfl) ?_
      refine va_get (D := D) (ci := 3) (v := .ref a6) (C := RX4) (T := TX4) (N := 13) hx hb hts hi_X4 hown hK.1 hP 0 rfl rfl 6 (by decide) hk_25 (fun _ h9 => h9) rfl dX4_judge_39 ?_
      refine lv_iload_n hx hb dX4_judge_42 rfl (lv_at hl 0 rfl) ?_
      refine xa_ld hx hb hK hP 6 rfl (j := i) hx2 (by omega) (by decide) dX4_judge_43 ?_
      refine lv_icmp_eq (tgt := 49) hx hb dX4_judge_44 (by decide) (fun c_7 => ?_) (fun c_7 => ?_)
      · skip
        refine lv_aload_n hx hb dX4_judge_49 rfl (lv_at hl 2 rfl) ?_
        refine va_get (D := D) (ci := 3) (v := .ref a2) (C := RX4) (T := TX4) (N := 13) hx hb hts hi_X4 hown hK.1 hP 0 rfl rfl 1 (by decide) hk_13 (fun _ h9 => h9) rfl dX4_judge_50 ?_
        refine xw_Si (As := [.ref a2]) (rest := []) (Wn := fun u => [(a0, .inr (3, [.ref a1, .ref a2, .ref a3, .ref a4, .int gg.hs, .ref a5, .ref a6, .ref a7, .int (nI gg.L), .int 0, .int mm.pl, .ref a8, .int mm.sd])), (a1, .inl (cI, 49, .inl gg.r)), (a2, .inl (cI, 49, .inl u)), (a3, .inl (cI, 49, .inl gg.im)), (a4, .inl (cI, 49, .inl mm.ws)), (a5, .inl (cI, 96, .inl gg.lt)), (a6, .inl (cI, 16, .inl gg.rw)), (a7, .inl (cI, 7, .inl gg.rf)), (a8, .inl (cI, 3, .inl mm.nb))]) (Wr := [(a0, .inr (3, [.ref a1, .ref a2, .ref a3, .ref a4, .int gg.hs, .ref a5, .ref a6, .ref a7, .int (nI gg.L), .int 0, .int mm.pl, .ref a8, .int mm.sd])), (a1, .inl (cI, 49, .inl gg.r)), (a3, .inl (cI, 49, .inl gg.im)), (a4, .inl (cI, 49, .inl mm.ws)), (a5, .inl (cI, 96, .inl gg.lt)), (a6, .inl (cI, 16, .inl gg.rw)), (a7, .inl (cI, 7, .inl gg.rf)), (a8, .inl (cI, 3, .inl mm.nb))]) ⟨hx, hb, hml, hown, hts⟩ (kX4_day l D cI H.size a2 f gg.n hI_f) (va_cwS 1 hts gX4_judge_X4_day rfl rfl rfl hs_X4_day ⟨Nat.le_of_ble_eq_true rfl, Nat.le_of_ble_eq_true rfl⟩) hK hP hD hS hA [2] [0, 1, 3, 4, 5, 6, 7, 8] [0, 1, 8, 2, 3, 4, 5, 6, 7] rfl rfl (by decide) (by decide) (by decide) (by decide) (fun u => rfl) rfl hl.1 rfl (Nat.le_of_ble_eq_true rfl) dX4_judge_53 ⟨Nat.zero_le _, Nat.zero_le _⟩ (fun r_8 u_8 H locs hw_8 hP hD hS => ?_)
        obtain ⟨hr_8, hu_8⟩ := hw_8
        have hI_u_8 : Inv gg.n u_8 := (by rw [hu_8]; exact hI_f.idayR)
        refine lv_istore_n (lv' := [(3, .int r_8), (2, .int x2), (1, .int x_1), (0, .ref a0)]) hx hb dX4_judge_56 rfl hl (by decide) rfl (fun ls hl => ?_)
        obtain ⟨x_9, ex_9⟩ : ∃ z : Int32, z = x2 + 1 := ⟨_, rfl⟩
        refine lv_iinc (v := x_9) (lv' := [(2, .int x_9), (3, .int r_8), (1, .int x_1), (0, .ref a0)]) hx hb dX4_judge_57 hl (k := 1) rfl (by rw [ex_9]; rfl) (by decide) rfl (fun ls hl => ?_)
        refine lv_goto (tgt := 23) hx hb dX4_judge_60 (by decide) ?_
        exact ih_3 (i + 1) x_9 u_8 _ _ _ (by omega) (ni_add (a := i) (b := 1) ex_9 hx2 (rfl : (1 : Int32) = nI 1)) (by omega) (by rw [dsR, ← hf]; exact hu_8) (lt_s hj (by have z := c_7; rw [hr_6, hr_5, hf] at z; rw [juP]; simp only [decide_eq_false_iff_not]; exact fun q => q z)) hP hD hS (lv_sub hl [0, 2, 3] rfl)
      refine lv_iload_n hx hb dX4_judge_47 rfl (lv_at hl 0 rfl) ?_
      exact hret 48 _ x2 ((gg.n, gg.r, gg.m, gg.im, gg.hs, gg.lt, gg.L, gg.rw, 0, gg.rf), (f, mm.ws, mm.nb, mm.pl, mm.sd)) _ _ dX4_judge_48 (by have e9 : ff (juP gg.r gg.n gg.rw) gg.M = i := ff_eq (by omega) (by have z := c_7; rw [hr_6, hr_5, hf] at z; rw [juP]; simp only [decide_eq_true_eq]; exact z) hj; have e7 : i < gg.M := (by omega); simp [sp_judge, e9, e7, hx2]) hP hD hS
  exact lp_23_3 ((gg.M - 0) + 1) 0 0 gg.r _ _ _ (by omega) (rfl : (0 : Int32) = nI 0) (by omega) rfl (fun j hj => absurd hj (Nat.not_lt_zero _)) hP hD hS (lv_sub hl [0, 1, 2] rfl)

set_option maxHeartbeats 4000000 in
set_option maxRecDepth 100000 in
theorem kX4_drawn (l : Launch) (D : va_G) (cI : ClassId) (sz : Nat) (a0 a1 a2 a3 a4 a5 a6 a7 a8 : Nat) (gg : GG) (mm : MS) (p0 : Int32) (hp : p0 = 4) : Met l yX4_drawn wsX4_drawn ({ frames := 0, cells := 0, slots := 0, locals := 0 }) (PRW D cI [.ref a0, .int p0] [(a0, .inr (3, [.ref a1, .ref a2, .ref a3, .ref a4, .int gg.hs, .ref a5, .ref a6, .ref a7, .int (nI gg.L), .int (nI gg.M), .int mm.pl, .ref a8, .int mm.sd]))] sz) (va_Qi (S := Unit) (fun v _ => v = drw (lcg mm.sd)) (BRW D [(a0, .inr (3, [.ref a1, .ref a2, .ref a3, .ref a4, .int gg.hs, .ref a5, .ref a6, .ref a7, .int (nI gg.L), .int (nI gg.M), .int mm.pl, .ref a8, .int mm.sd]))] sz (fun u => [(a0, .inr (3, [.ref a1, .ref a2, .ref a3, .ref a4, .int gg.hs, .ref a5, .ref a6, .ref a7, .int (nI gg.L), .int (nI gg.M), .int mm.pl, .ref a8, .int (lcg mm.sd)]))])) (va_A [(a0, .inr (3, [.ref a1, .ref a2, .ref a3, .ref a4, .int gg.hs, .ref a5, .ref a6, .ref a7, .int (nI gg.L), .int (nI gg.M), .int mm.pl, .ref a8, .int mm.sd]))] sz)) 0 0 (va_A [(a0, .inr (3, [.ref a1, .ref a2, .ref a3, .ref a4, .int gg.hs, .ref a5, .ref a6, .ref a7, .int (nI gg.L), .int (nI gg.M), .int mm.pl, .ref a8, .int mm.sd]))] sz) := by
  refine st_rwi (cc := cX4_drawn) (maxL := 2) (rt := .int) (by decide) rfl (Nat.le_of_ble_eq_true rfl) (fun _ _ _ => rfl) ?_
  intro p e s m below meth c Q ls A hx hb hml hts hown hP hK hD hA hS hl hret
  replace hown : s.vm.findClass RX4 = some m.cls := hown
  replace hl : lv_has ls 2 [(0, .ref a0), (1, .int p0)] := hl
  obtain ⟨H, hH⟩ : ∃ z, z = s.heap := ⟨_, rfl⟩
  obtain ⟨locs, hlo⟩ : ∃ z : List Loc, z = [] := ⟨_, rfl⟩
  replace hP : va_P D vwCl [(a0, .inr (3, [.ref a1, .ref a2, .ref a3, .ref a4, .int gg.hs, .ref a5, .ref a6, .ref a7, .int (nI gg.L), .int (nI gg.M), .int mm.pl, .ref a8, .int mm.sd]))] H := by rw [hH]; exact hP
  replace hS : va_S A s.heap H locs := by rw [hH, hlo]; exact hS
  show W p l e ({ frames := 0, cells := 0, slots := 0, locals := 0 }) s m [.ref a0, .int p0].toArray below meth c s.heap [] 0 0 Q (F0 m 0 ls [])
  rw [← hlo]
  suffices hgo : W p l e ({ frames := 0, cells := 0, slots := 0, locals := 0 }) s m [.ref a0, .int p0].toArray below meth c H locs 0 0 Q (F0 m 0 ls []) by rw [hH] at hgo; exact hgo
  clear hH hlo
  have hi_X4 : ∀ w ∈ wsX40, w ∈ wsX4_drawn := fun w h => List.mem_cons_of_mem _ (List.mem_append_right _ (h))
  have hk_189 := hts (.fieldLink RX4 189 "NestsOfTalkModel" "seed" "I") (List.mem_of_getElem? (i := 1) rfl)
  have hc_192 := hts (.constant RX4 192 (1664525)) (List.mem_of_getElem? (i := 2) rfl)
  have hc_193 := hts (.constant RX4 193 (1013904223)) (List.mem_of_getElem? (i := 3) rfl)
  have hc_194 := hts (.constant RX4 194 (2147483647)) (List.mem_of_getElem? (i := 4) rfl)
  refine lv_aload_n hx hb dX4_drawn_0 rfl (lv_at hl 0 rfl) ?_
  refine lv_aload_n hx hb dX4_drawn_1 rfl (lv_at hl 0 rfl) ?_
  refine va_get (D := D) (ci := 3) (v := .int mm.sd) (C := RX4) (T := TX4) (N := 13) hx hb hts hi_X4 hown hK.1 hP 0 rfl rfl 12 (by decide) hk_189 (fun _ h9 => h9) rfl dX4_drawn_2 ?_
  refine lv_ldc (v := 1664525) hx hb hown hc_192 dX4_drawn_5 ?_
  refine lv_imul hx hb dX4_drawn_7 ?_
  refine lv_ldc (v := 1013904223) hx hb hown hc_193 dX4_drawn_8 ?_
  refine lv_iadd hx hb dX4_drawn_10 ?_
  refine lv_topi (fun x_1 ex_1 => ?_)
  refine va_put (D := D) (ci := 3) (v := .int x_1) (ty := .int) (C := RX4) (T := TX4) (N := 13) hx hb hts hi_X4 tyX4 tyX4_ok nmX4 hown hK.1 hP hD hS 0 rfl rfl 12 (by decide) hk_189 (fun _ h9 => h9) rfl pd_I rfl rfl (Nat.le_of_ble_eq_true rfl) dX4_drawn_11 (fun H locs hP hD hS => ?_)
  have hP : va_P D vwCl [(a0, .inr (3, [.ref a1, .ref a2, .ref a3, .ref a4, .int gg.hs, .ref a5, .ref a6, .ref a7, .int (nI gg.L), .int (nI gg.M), .int mm.pl, .ref a8, .int x_1]))] H := hP
  have hD : va_D A [(a0, .inr (3, [.ref a1, .ref a2, .ref a3, .ref a4, .int gg.hs, .ref a5, .ref a6, .ref a7, .int (nI gg.L), .int (nI gg.M), .int mm.pl, .ref a8, .int x_1]))] := hD
  rw [show x_1 = lcg mm.sd from ex_1] at hP hD
  have hP : va_P D vwCl [(a0, .inr (3, [.ref a1, .ref a2, .ref a3, .ref a4, .int gg.hs, .ref a5, .ref a6, .ref a7, .int (nI gg.L), .int (nI gg.M), .int mm.pl, .ref a8, .int (lcg mm.sd)]))] H := hP
  have hD : va_D A [(a0, .inr (3, [.ref a1, .ref a2, .ref a3, .ref a4, .int gg.hs, .ref a5, .ref a6, .ref a7, .int (nI gg.L), .int (nI gg.M), .int mm.pl, .ref a8, .int (lcg mm.sd)]))] := hD
  refine lv_aload_n hx hb dX4_drawn_14 rfl (lv_at hl 0 rfl) ?_
  refine va_get (D := D) (ci := 3) (v := .int (lcg mm.sd)) (C := RX4) (T := TX4) (N := 13) hx hb hts hi_X4 hown hK.1 hP 0 rfl rfl 12 (by decide) hk_189 (fun _ h9 => h9) rfl dX4_drawn_15 ?_
  refine lv_ldc (v := 2147483647) hx hb hown hc_194 dX4_drawn_18 ?_
  refine lv_iand hx hb dX4_drawn_20 ?_
  refine lv_sipush (v := 256) hx hb dX4_drawn_21 (by decide) ?_
  refine lv_idiv hx hb dX4_drawn_24 (by decide) ?_
  refine lv_iload_n hx hb dX4_drawn_25 rfl (lv_at hl 1 rfl) ?_
  refine lv_irem hx hb dX4_drawn_26 (by rw [hp]; decide) ?_
  exact hret 27 _ ((((lcg mm.sd) &&& 2147483647) / 256) - (((lcg mm.sd) &&& 2147483647) / 256) / p0 * p0) () _ _ dX4_drawn_27 (by rw [hp]; rfl) hP hD hS

set_option maxHeartbeats 4000000 in
set_option maxRecDepth 100000 in
theorem kX4_lots (l : Launch) (D : va_G) (cI : ClassId) (sz : Nat) (a0 a1 a2 a3 a4 a5 a6 a7 a8 : Nat) (gg : GG) (mm : MS) (hG : Good gg) (p0 p1 p2 : Int32) : Met l yX4_lots wsX4_lots ({ frames := 7, cells := 0, slots := 0, locals := 155 }) (PRW D cI [.ref a0, .int p0, .int p1, .int p2] [(a0, .inr (3, [.ref a1, .ref a2, .ref a3, .ref a4, .int gg.hs, .ref a5, .ref a6, .ref a7, .int (nI gg.L), .int (nI gg.M), .int mm.pl, .ref a8, .int mm.sd])), (a1, .inl (cI, 49, .inl gg.r)), (a2, .inl (cI, 49, .inl mm.m)), (a3, .inl (cI, 49, .inl gg.im)), (a4, .inl (cI, 49, .inl mm.ws)), (a5, .inl (cI, 96, .inl gg.lt)), (a6, .inl (cI, 16, .inl gg.rw)), (a7, .inl (cI, 7, .inl gg.rf)), (a8, .inl (cI, 3, .inl mm.nb))] sz) (va_Qi (S := GG × MS) (fun v u => (v, u.1) = sp_lots gg p0 p1 p2) (BRW D [(a0, .inr (3, [.ref a1, .ref a2, .ref a3, .ref a4, .int gg.hs, .ref a5, .ref a6, .ref a7, .int (nI gg.L), .int (nI gg.M), .int mm.pl, .ref a8, .int mm.sd])), (a1, .inl (cI, 49, .inl gg.r)), (a2, .inl (cI, 49, .inl mm.m)), (a3, .inl (cI, 49, .inl gg.im)), (a4, .inl (cI, 49, .inl mm.ws)), (a5, .inl (cI, 96, .inl gg.lt)), (a6, .inl (cI, 16, .inl gg.rw)), (a7, .inl (cI, 7, .inl gg.rf)), (a8, .inl (cI, 3, .inl mm.nb))] sz (fun u => [(a0, .inr (3, [.ref a1, .ref a2, .ref a3, .ref a4, .int u.1.hs, .ref a5, .ref a6, .ref a7, .int (nI u.1.L), .int (nI u.1.M), .int u.2.pl, .ref a8, .int u.2.sd])), (a1, .inl (cI, 49, .inl u.1.r)), (a2, .inl (cI, 49, .inl u.2.m)), (a3, .inl (cI, 49, .inl u.1.im)), (a4, .inl (cI, 49, .inl u.2.ws)), (a5, .inl (cI, 96, .inl u.1.lt)), (a6, .inl (cI, 16, .inl u.1.rw)), (a7, .inl (cI, 7, .inl u.1.rf)), (a8, .inl (cI, 3, .inl u.2.nb))])) (va_A [(a0, .inr (3, [.ref a1, .ref a2, .ref a3, .ref a4, .int gg.hs, .ref a5, .ref a6, .ref a7, .int (nI gg.L), .int (nI gg.M), .int mm.pl, .ref a8, .int mm.sd])), (a1, .inl (cI, 49, .inl gg.r)), (a2, .inl (cI, 49, .inl mm.m)), (a3, .inl (cI, 49, .inl gg.im)), (a4, .inl (cI, 49, .inl mm.ws)), (a5, .inl (cI, 96, .inl gg.lt)), (a6, .inl (cI, 16, .inl gg.rw)), (a7, .inl (cI, 7, .inl gg.rf)), (a8, .inl (cI, 3, .inl mm.nb))] sz)) 0 0 (va_A [(a0, .inr (3, [.ref a1, .ref a2, .ref a3, .ref a4, .int gg.hs, .ref a5, .ref a6, .ref a7, .int (nI gg.L), .int (nI gg.M), .int mm.pl, .ref a8, .int mm.sd])), (a1, .inl (cI, 49, .inl gg.r)), (a2, .inl (cI, 49, .inl mm.m)), (a3, .inl (cI, 49, .inl gg.im)), (a4, .inl (cI, 49, .inl mm.ws)), (a5, .inl (cI, 96, .inl gg.lt)), (a6, .inl (cI, 16, .inl gg.rw)), (a7, .inl (cI, 7, .inl gg.rf)), (a8, .inl (cI, 3, .inl mm.nb))] sz) := by
  refine st_rwi (cc := cX4_lots) (maxL := 7) (rt := .int) (by decide) rfl (Nat.le_of_ble_eq_true rfl) (fun _ _ _ => rfl) ?_
  intro p e s m below meth c Q ls A hx hb hml hts hown hP hK hD hA hS hl hret
  replace hown : s.vm.findClass RX4 = some m.cls := hown
  replace hl : lv_has ls 7 [(0, .ref a0), (1, .int p0), (2, .int p1), (3, .int p2)] := hl
  obtain ⟨H, hH⟩ : ∃ z, z = s.heap := ⟨_, rfl⟩
  obtain ⟨locs, hlo⟩ : ∃ z : List Loc, z = [] := ⟨_, rfl⟩
  replace hP : va_P D vwCl [(a0, .inr (3, [.ref a1, .ref a2, .ref a3, .ref a4, .int gg.hs, .ref a5, .ref a6, .ref a7, .int (nI gg.L), .int (nI gg.M), .int mm.pl, .ref a8, .int mm.sd])), (a1, .inl (cI, 49, .inl gg.r)), (a2, .inl (cI, 49, .inl mm.m)), (a3, .inl (cI, 49, .inl gg.im)), (a4, .inl (cI, 49, .inl mm.ws)), (a5, .inl (cI, 96, .inl gg.lt)), (a6, .inl (cI, 16, .inl gg.rw)), (a7, .inl (cI, 7, .inl gg.rf)), (a8, .inl (cI, 3, .inl mm.nb))] H := by rw [hH]; exact hP
  replace hS : va_S A s.heap H locs := by rw [hH, hlo]; exact hS
  show W p l e ({ frames := 7, cells := 0, slots := 0, locals := 155 }) s m [.ref a0, .int p0, .int p1, .int p2].toArray below meth c s.heap [] 0 0 Q (F0 m 0 ls [])
  rw [← hlo]
  suffices hgo : W p l e ({ frames := 7, cells := 0, slots := 0, locals := 155 }) s m [.ref a0, .int p0, .int p1, .int p2].toArray below meth c H locs 0 0 Q (F0 m 0 ls []) by rw [hH] at hgo; exact hgo
  clear hH hlo
  have hi_X4 : ∀ w ∈ wsX40, w ∈ wsX4_lots := fun w h => List.mem_cons_of_mem _ (List.mem_append_right _ (h))
  have hk_189 := hts (.fieldLink RX4 189 "NestsOfTalkModel" "seed" "I") (List.mem_of_getElem? (i := 1) rfl)
  have hk_9 := hts (.fieldLink RX4 9 "NestsOfTalkModel" "s" "[I") (List.mem_of_getElem? (i := 2) rfl)
  have hk_13 := hts (.fieldLink RX4 13 "NestsOfTalkModel" "m" "[I") (List.mem_of_getElem? (i := 3) rfl)
  have hI := hG.inv
  have hn9 := hI.le
  have hL96 := hG.L96
  have hM16 := hG.M16
  refine lv_iload_n hx hb dX4_lots_0 rfl (lv_at hl 1 rfl) ?_
  refine lv_iconst (v := 1) hx hb dX4_lots_1 (by decide) ?_
  refine lv_icmp_ge (tgt := 12) hx hb dX4_lots_2 (by decide) (fun c_1 => ?_) (fun c_1 => ?_)
  · skip
    have d_1 : ¬ p0 < 1 := Int32.not_lt.2 c_1
    refine lv_iload_n hx hb dX4_lots_12 rfl (lv_at hl 1 rfl) ?_
    refine lv_bipush (v := 20) hx hb dX4_lots_13 (by decide) ?_
    refine lv_icmp_le (tgt := 25) hx hb dX4_lots_15 (by decide) (fun c_2 => ?_) (fun c_2 => ?_)
    · skip
      have d_2 : ¬ 20 < p0 := Int32.not_lt.2 c_2
      obtain ⟨kd, hk1, hk2, hkd⟩ := isI_nat (v := p0) (lo := 1) (hi := 20) (a := 1) (b := 20) rfl rfl (by decide) (by decide) (by rw [isI, decide_eq_true_eq]; exact ⟨c_1, c_2⟩)
      have tn_d : tN p0 = kd := by rw [hkd]; exact tN_nI (by omega)
      refine lv_iload_n hx hb dX4_lots_25 rfl (lv_at hl 3 rfl) ?_
      refine lv_iconst (v := 0) hx hb dX4_lots_26 (by decide) ?_
      refine lv_iconst (v := 1) hx hb dX4_lots_27 (by decide) ?_
      refine xc_Si (As := [.int p2, .int 0, .int 1]) (rest := []) ⟨hx, hb, hml, hown, hts⟩ (kX4_isIn l D cI p2 0 1) (va_cwS 3 hts gX4_lots_X4_isIn rfl rfl rfl hs_X4_isIn ⟨Nat.le_of_ble_eq_true rfl, Nat.le_of_ble_eq_true rfl⟩) hK hP [] rfl rfl hl.1 rfl (Nat.le_of_ble_eq_true rfl) dX4_lots_28 ⟨Nat.zero_le _, Nat.zero_le _⟩ (fun r_3 hr_3 => ?_)
      refine lv_if_ne (tgt := 41) hx hb dX4_lots_31 (by decide) (fun c_4 => ?_) (fun c_4 => ?_)
      · skip
        have hb_4 : isI p2 0 1 = true := bool_t (hr_3.trans isI_ite) c_4
        obtain ⟨i_4, il_4, iu_4, ei_4⟩ := isI_nat (a := 0) (b := 1) (rfl : (0 : Int32) = nI 0) (rfl : (1 : Int32) = nI 1) (by decide) (by omega) hb_4
        have tn_4 : tN p2 = i_4 := by rw [ei_4]; exact tN_nI (by omega)
        refine lv_aload_n hx hb dX4_lots_41 rfl (lv_at hl 0 rfl) ?_
        refine lv_iload_n hx hb dX4_lots_42 rfl (lv_at hl 2 rfl) ?_
        refine va_put (D := D) (ci := 3) (v := .int p1) (ty := .int) (C := RX4) (T := TX4) (N := 13) hx hb hts hi_X4 tyX4 tyX4_ok nmX4 hown hK.1 hP hD hS 0 rfl rfl 12 (by decide) hk_189 (fun _ h9 => h9) rfl pd_I rfl rfl (Nat.le_of_ble_eq_true rfl) dX4_lots_43 (fun H locs hP hD hS => ?_)
        have hP : va_P D vwCl [(a0, .inr (3, [.ref a1, .ref a2, .ref a3, .ref a4, .int gg.hs, .ref a5, .ref a6, .ref a7, .int (nI gg.L), .int (nI gg.M), .int mm.pl, .ref a8, .int p1])), (a1, .inl (cI, 49, .inl gg.r)), (a2, .inl (cI, 49, .inl mm.m)), (a3, .inl (cI, 49, .inl gg.im)), (a4, .inl (cI, 49, .inl mm.ws)), (a5, .inl (cI, 96, .inl gg.lt)), (a6, .inl (cI, 16, .inl gg.rw)), (a7, .inl (cI, 7, .inl gg.rf)), (a8, .inl (cI, 3, .inl mm.nb))] H := hP
        have hD : va_D A [(a0, .inr (3, [.ref a1, .ref a2, .ref a3, .ref a4, .int gg.hs, .ref a5, .ref a6, .ref a7, .int (nI gg.L), .int (nI gg.M), .int mm.pl, .ref a8, .int p1])), (a1, .inl (cI, 49, .inl gg.r)), (a2, .inl (cI, 49, .inl mm.m)), (a3, .inl (cI, 49, .inl gg.im)), (a4, .inl (cI, 49, .inl mm.ws)), (a5, .inl (cI, 96, .inl gg.lt)), (a6, .inl (cI, 16, .inl gg.rw)), (a7, .inl (cI, 7, .inl gg.rf)), (a8, .inl (cI, 3, .inl mm.nb))] := hD
        refine lv_iconst (v := 0) hx hb dX4_lots_46 (by decide) ?_
        refine lv_istore (lv' := [(4, .int 0), (0, .ref a0), (1, .int p0), (2, .int p1), (3, .int p2)]) hx hb dX4_lots_47 hl (by decide) rfl (fun ls hl => ?_)
        refine lv_iconst (v := 0) hx hb dX4_lots_49 (by decide) ?_
        refine lv_istore (lv' := [(5, .int 0), (4, .int 0), (0, .ref a0), (1, .int p0), (2, .int p1), (3, .int p2)]) hx hb dX4_lots_50 hl (by decide) rfl (fun ls hl => ?_)
        have lp_52_5 : ∀ (fu : Nat) (j : Nat) (x5 : Int32) (x4 : Int32) (f : RR) (sd : Int32) (ls : Array Slot) (H : Heap) (locs : List Loc), kd - j < fu → (x5 = nI j) → (j ≤ kd) → (x4 = (luF gg.r gg.n p2 p1 j).1) → (sd = (luF gg.r gg.n p2 p1 j).2) → va_P D vwCl [(a0, .inr (3, [.ref a1, .ref a2, .ref a3, .ref a4, .int gg.hs, .ref a5, .ref a6, .ref a7, .int (nI gg.L), .int (nI gg.M), .int mm.pl, .ref a8, .int sd])), (a1, .inl (cI, 49, .inl gg.r)), (a2, .inl (cI, 49, .inl f)), (a3, .inl (cI, 49, .inl gg.im)), (a4, .inl (cI, 49, .inl mm.ws)), (a5, .inl (cI, 96, .inl gg.lt)), (a6, .inl (cI, 16, .inl gg.rw)), (a7, .inl (cI, 7, .inl gg.rf)), (a8, .inl (cI, 3, .inl mm.nb))] H → va_D A [(a0, .inr (3, [.ref a1, .ref a2, .ref a3, .ref a4, .int gg.hs, .ref a5, .ref a6, .ref a7, .int (nI gg.L), .int (nI gg.M), .int mm.pl, .ref a8, .int sd])), (a1, .inl (cI, 49, .inl gg.r)), (a2, .inl (cI, 49, .inl f)), (a3, .inl (cI, 49, .inl gg.im)), (a4, .inl (cI, 49, .inl mm.ws)), (a5, .inl (cI, 96, .inl gg.lt)), (a6, .inl (cI, 16, .inl gg.rw)), (a7, .inl (cI, 7, .inl gg.rf)), (a8, .inl (cI, 3, .inl mm.nb))] → va_S A s.heap H locs → lv_has ls 7 [(5, .int x5), (4, .int x4), (0, .ref a0), (1, .int p0), (2, .int p1), (3, .int p2)] → W p l e ({ frames := 7, cells := 0, slots := 0, locals := 155 }) s m [.ref a0, .int p0, .int p1, .int p2].toArray below meth c H locs 0 0 Q (F0 m 52 ls []) := by
          intro fu
          induction fu with
          | zero =>
            intro j x5 x4 f sd ls H locs hfu
            exact absurd hfu (Nat.not_lt_zero _)
          | succ fu ih_5 =>
            intro j x5 x4 f sd ls H locs hfu hx5 hj hx4 hsd hP hD hS hl
            refine lv_iload hx hb dX4_lots_52 (lv_at hl 0 rfl) ?_
            refine lv_iload_n hx hb dX4_lots_54 rfl (lv_at hl 3 rfl) ?_
            refine lv_icmp_ge (tgt := 155) hx hb dX4_lots_55 (by decide) (fun c_6 => ?_) (fun c_6 => ?_)
            · skip
              have n_6 : kd ≤ j := (ni_le (a := kd) (b := j) hkd hx5 (by omega) (by omega)).mp c_6
              have d_6 : ¬ x5 < p0 := Int32.not_lt.2 c_6
              have m_6 : ¬ j < kd := by omega
              refine lv_iload hx hb dX4_lots_155 (lv_at hl 1 rfl) ?_
              exact hret 157 _ x4 (gg, (f, mm.ws, mm.nb, mm.pl, sd)) _ _ dX4_lots_157 (by have e9 : j = kd := (by omega); subst e9; simp [sp_lots, hx4, hb_4, tn_4, tn_d, c_1, c_2]) hP hD hS
            have n_6 : ¬ kd ≤ j := fun q => c_6 ((ni_le (a := kd) (b := j) hkd hx5 (by omega) (by omega)).mpr q)
            have d_6 : x5 < p0 := Int32.not_le.1 c_6
            have m_6 : j < kd := by omega
            refine lv_aload_n hx hb dX4_lots_58 rfl (lv_at hl 2 rfl) ?_
            refine va_get (D := D) (ci := 3) (v := .ref a1) (C := RX4) (T := TX4) (N := 13) hx hb hts hi_X4 hown hK.1 hP 0 rfl rfl 0 (by decide) hk_9 (fun _ h9 => h9) rfl dX4_lots_59 ?_
            refine lv_aload_n hx hb dX4_lots_62 rfl (lv_at hl 2 rfl) ?_
            refine va_get (D := D) (ci := 3) (v := .ref a2) (C := RX4) (T := TX4) (N := 13) hx hb hts hi_X4 hown hK.1 hP 0 rfl rfl 1 (by decide) hk_13 (fun _ h9 => h9) rfl dX4_lots_63 ?_
            refine xw_Sv (As := [.ref a1, .ref a2]) (rest := []) (Wn := fun u => [(a0, .inr (3, [.ref a1, .ref a2, .ref a3, .ref a4, .int gg.hs, .ref a5, .ref a6, .ref a7, .int (nI gg.L), .int (nI gg.M), .int mm.pl, .ref a8, .int sd])), (a1, .inl (cI, 49, .inl gg.r)), (a2, .inl (cI, 49, .inl gg.r)), (a3, .inl (cI, 49, .inl gg.im)), (a4, .inl (cI, 49, .inl mm.ws)), (a5, .inl (cI, 96, .inl gg.lt)), (a6, .inl (cI, 16, .inl gg.rw)), (a7, .inl (cI, 7, .inl gg.rf)), (a8, .inl (cI, 3, .inl mm.nb))]) (Wr := [(a0, .inr (3, [.ref a1, .ref a2, .ref a3, .ref a4, .int gg.hs, .ref a5, .ref a6, .ref a7, .int (nI gg.L), .int (nI gg.M), .int mm.pl, .ref a8, .int sd])), (a3, .inl (cI, 49, .inl gg.im)), (a4, .inl (cI, 49, .inl mm.ws)), (a5, .inl (cI, 96, .inl gg.lt)), (a6, .inl (cI, 16, .inl gg.rw)), (a7, .inl (cI, 7, .inl gg.rf)), (a8, .inl (cI, 3, .inl mm.nb))]) ⟨hx, hb, hml, hown, hts⟩ (kX4_copies l D cI H.size a1 a2 gg.r f) (va_cwS 2 hts gX4_lots_X4_copies rfl rfl rfl hs_X4_copies ⟨Nat.le_of_ble_eq_true rfl, Nat.le_of_ble_eq_true rfl⟩) hK hP hD hS hA [1, 2] [0, 3, 4, 5, 6, 7, 8] [0, 7, 8, 1, 2, 3, 4, 5, 6] rfl rfl (by decide) (by decide) (by decide) (by decide) (fun u => rfl) rfl hl.1 rfl (Nat.le_of_ble_eq_true rfl) dX4_lots_66 ⟨Nat.zero_le _, Nat.zero_le _⟩ (fun u_7 H locs hw_7 hP hD hS => ?_)
            refine lv_iconst (v := 0) hx hb dX4_lots_69 (by decide) ?_
            refine lv_istore (lv' := [(6, .int 0), (5, .int x5), (4, .int x4), (0, .ref a0), (1, .int p0), (2, .int p1), (3, .int p2)]) hx hb dX4_lots_70 hl (by decide) rfl (fun ls hl => ?_)
            have lp_72_8 : ∀ (fu : Nat) (t : Nat) (x6 : Int32) (f2 : RR) (sd2 : Int32) (ls : Array Slot) (H : Heap) (locs : List Loc), gg.n - t < fu → (x6 = nI t) → (t ≤ gg.n) → (f2 = (ltR gg.r sd t).1) → (sd2 = (ltR gg.r sd t).2) → va_P D vwCl [(a0, .inr (3, [.ref a1, .ref a2, .ref a3, .ref a4, .int gg.hs, .ref a5, .ref a6, .ref a7, .int (nI gg.L), .int (nI gg.M), .int mm.pl, .ref a8, .int sd2])), (a1, .inl (cI, 49, .inl gg.r)), (a2, .inl (cI, 49, .inl f2)), (a3, .inl (cI, 49, .inl gg.im)), (a4, .inl (cI, 49, .inl mm.ws)), (a5, .inl (cI, 96, .inl gg.lt)), (a6, .inl (cI, 16, .inl gg.rw)), (a7, .inl (cI, 7, .inl gg.rf)), (a8, .inl (cI, 3, .inl mm.nb))] H → va_D A [(a0, .inr (3, [.ref a1, .ref a2, .ref a3, .ref a4, .int gg.hs, .ref a5, .ref a6, .ref a7, .int (nI gg.L), .int (nI gg.M), .int mm.pl, .ref a8, .int sd2])), (a1, .inl (cI, 49, .inl gg.r)), (a2, .inl (cI, 49, .inl f2)), (a3, .inl (cI, 49, .inl gg.im)), (a4, .inl (cI, 49, .inl mm.ws)), (a5, .inl (cI, 96, .inl gg.lt)), (a6, .inl (cI, 16, .inl gg.rw)), (a7, .inl (cI, 7, .inl gg.rf)), (a8, .inl (cI, 3, .inl mm.nb))] → va_S A s.heap H locs → lv_has ls 7 [(6, .int x6), (5, .int x5), (4, .int x4), (0, .ref a0), (1, .int p0), (2, .int p1), (3, .int p2)] → W p l e ({ frames := 7, cells := 0, slots := 0, locals := 155 }) s m [.ref a0, .int p0, .int p1, .int p2].toArray below meth c H locs 0 0 Q (F0 m 72 ls []) := by
              intro fu
              induction fu with
              | zero =>
                intro t x6 f2 sd2 ls H locs hfu
                exact absurd hfu (Nat.not_lt_zero _)
              | succ fu ih_8 =>
                intro t x6 f2 sd2 ls H locs hfu hx6 ht hf2 hsd2 hP hD hS hl
                have hI_f2 : Inv gg.n f2 := (by rw [hf2]; exact hI.iltR _ _)
                refine lv_iload hx hb dX4_lots_72 (lv_at hl 0 rfl) ?_
                refine lv_aload_n hx hb dX4_lots_74 rfl (lv_at hl 3 rfl) ?_
                refine va_get (D := D) (ci := 3) (v := .ref a1) (C := RX4) (T := TX4) (N := 13) hx hb hts hi_X4 hown hK.1 hP 0 rfl rfl 0 (by decide) hk_9 (fun _ h9 => h9) rfl dX4_lots_75 ?_
                refine lv_iconst (v := 0) hx hb dX4_lots_78 (by decide) ?_
                refine xa_ld hx hb hK hP 1 rfl (j := 0) (rfl : (0 : Int32) = nI 0) (by omega) (by decide) dX4_lots_79 ?_
                refine lv_icmp_ge (tgt := 117) hx hb dX4_lots_80 (by decide) (fun c_9 => ?_) (fun c_9 => ?_)
                · skip
                  have n_9 : gg.n ≤ t := (ni_le (a := gg.n) (b := t) hI.n0 hx6 (by omega) (by omega)).mp c_9
                  have d_9 : ¬ x6 < (gg.r 0) := Int32.not_lt.2 c_9
                  have m_9 : ¬ t < gg.n := by omega
                  refine lv_aload_n hx hb dX4_lots_117 rfl (lv_at hl 3 rfl) ?_
                  refine va_get (D := D) (ci := 3) (v := .ref a2) (C := RX4) (T := TX4) (N := 13) hx hb hts hi_X4 hown hK.1 hP 0 rfl rfl 1 (by decide) hk_13 (fun _ h9 => h9) rfl dX4_lots_118 ?_
                  refine lv_bipush (v := 15) hx hb dX4_lots_121 (by decide) ?_
                  refine xw_Si (As := [.ref a2, .int 15]) (rest := []) (Wn := fun u => [(a0, .inr (3, [.ref a1, .ref a2, .ref a3, .ref a4, .int gg.hs, .ref a5, .ref a6, .ref a7, .int (nI gg.L), .int (nI gg.M), .int mm.pl, .ref a8, .int sd2])), (a1, .inl (cI, 49, .inl gg.r)), (a2, .inl (cI, 49, .inl u)), (a3, .inl (cI, 49, .inl gg.im)), (a4, .inl (cI, 49, .inl mm.ws)), (a5, .inl (cI, 96, .inl gg.lt)), (a6, .inl (cI, 16, .inl gg.rw)), (a7, .inl (cI, 7, .inl gg.rf)), (a8, .inl (cI, 3, .inl mm.nb))]) (Wr := [(a0, .inr (3, [.ref a1, .ref a2, .ref a3, .ref a4, .int gg.hs, .ref a5, .ref a6, .ref a7, .int (nI gg.L), .int (nI gg.M), .int mm.pl, .ref a8, .int sd2])), (a1, .inl (cI, 49, .inl gg.r)), (a3, .inl (cI, 49, .inl gg.im)), (a4, .inl (cI, 49, .inl mm.ws)), (a5, .inl (cI, 96, .inl gg.lt)), (a6, .inl (cI, 16, .inl gg.rw)), (a7, .inl (cI, 7, .inl gg.rf)), (a8, .inl (cI, 3, .inl mm.nb))]) ⟨hx, hb, hml, hown, hts⟩ (kX4_daysOn l D cI H.size a2 f2 gg.n hI_f2 15 15 (rfl : (15 : Int32) = nI 15) (by omega)) (va_cwS 2 hts gX4_lots_X4_daysOn rfl rfl rfl hs_X4_daysOn ⟨Nat.le_of_ble_eq_true rfl, Nat.le_of_ble_eq_true rfl⟩) hK hP hD hS hA [2] [0, 1, 3, 4, 5, 6, 7, 8] [0, 1, 8, 2, 3, 4, 5, 6, 7] rfl rfl (by decide) (by decide) (by decide) (by decide) (fun u => rfl) rfl hl.1 rfl (Nat.le_of_ble_eq_true rfl) dX4_lots_123 ⟨Nat.zero_le _, Nat.zero_le _⟩ (fun r_10 u_10 H locs hw_10 hP hD hS => ?_)
                  obtain ⟨hr_10, hu_10⟩ := hw_10
                  have hI_u_10 : Inv gg.n u_10 := (by rw [hu_10]; exact hI_f2.idsR _)
                  refine lv_istore (lv' := [(6, .int r_10), (5, .int x5), (4, .int x4), (0, .ref a0), (1, .int p0), (2, .int p1), (3, .int p2)]) hx hb dX4_lots_126 hl (by decide) rfl (fun ls hl => ?_)
                  refine lv_iload hx hb dX4_lots_128 (lv_at hl 2 rfl) ?_
                  refine lv_iload_n hx hb dX4_lots_130 rfl (lv_at hl 6 rfl) ?_
                  refine lv_if_ne (tgt := 139) hx hb dX4_lots_131 (by decide) (fun c_11 => ?_) (fun c_11 => ?_)
                  · skip
                    have n_11 : ¬ i_4 = 0 := fun q => c_11 ((ni_eq (a := i_4) (b := 0) ei_4 (rfl : (0 : Int32) = nI 0) (by omega) (by decide)).mpr q)
                    refine lv_aload_n hx hb dX4_lots_139 rfl (lv_at hl 3 rfl) ?_
                    refine va_get (D := D) (ci := 3) (v := .ref a2) (C := RX4) (T := TX4) (N := 13) hx hb hts hi_X4 hown hK.1 hP 0 rfl rfl 1 (by decide) hk_13 (fun _ h9 => h9) rfl dX4_lots_140 ?_
                    refine xc_Si (As := [.ref a2]) (rest := [.int x4]) ⟨hx, hb, hml, hown, hts⟩ (kX4_softAll l D cI a2 u_10 gg.n hI_u_10) (va_cwS 1 hts gX4_lots_X4_softAll rfl rfl rfl hs_X4_softAll ⟨Nat.le_of_ble_eq_true rfl, Nat.le_of_ble_eq_true rfl⟩) hK hP [2] rfl rfl hl.1 rfl (Nat.le_of_ble_eq_true rfl) dX4_lots_143 ⟨Nat.zero_le _, Nat.zero_le _⟩ (fun r_12 hr_12 => ?_)
                    refine lv_iadd hx hb dX4_lots_146 ?_
                    refine lv_topi (fun x_13 ex_13 => ?_)
                    refine lv_istore (lv' := [(4, .int x_13), (6, .int r_10), (5, .int x5), (0, .ref a0), (1, .int p0), (2, .int p1), (3, .int p2)]) hx hb dX4_lots_147 hl (by decide) rfl (fun ls hl => ?_)
                    obtain ⟨x_14, ex_14⟩ : ∃ z : Int32, z = x5 + 1 := ⟨_, rfl⟩
                    refine lv_iinc (v := x_14) (lv' := [(5, .int x_14), (4, .int x_13), (6, .int r_10), (0, .ref a0), (1, .int p0), (2, .int p1), (3, .int p2)]) hx hb dX4_lots_149 hl (k := 2) rfl (by rw [ex_14]; rfl) (by decide) rfl (fun ls hl => ?_)
                    refine lv_goto (tgt := 52) hx hb dX4_lots_152 (by decide) ?_
                    exact ih_5 (j + 1) x_14 x_13 u_10 sd2 _ _ _ (by omega) (ni_add (a := j) (b := 1) ex_14 hx5 (rfl : (1 : Int32) = nI 1)) (by omega) (by have e8 : t = gg.n := (by omega); rw [e8] at hf2 hsd2; rw [ex_13, hx4, luF, luS, if_neg c_11, hr_12, hu_10, hf2, hsd]) (by have e8 : t = gg.n := (by omega); rw [e8] at hf2 hsd2; rw [hsd2, luF, luS, hsd]) hP hD hS (lv_sub hl [0, 1, 3, 4, 5, 6] rfl)
                  have n_11 : i_4 = 0 := (ni_eq (a := i_4) (b := 0) ei_4 (rfl : (0 : Int32) = nI 0) (by omega) (by decide)).mp c_11
                  refine lv_iload hx hb dX4_lots_134 (lv_at hl 0 rfl) ?_
                  refine lv_goto (tgt := 146) hx hb dX4_lots_136 (by decide) ?_
                  refine lv_iadd hx hb dX4_lots_146 ?_
                  refine lv_topi (fun x_15 ex_15 => ?_)
                  refine lv_istore (lv' := [(4, .int x_15), (6, .int r_10), (5, .int x5), (0, .ref a0), (1, .int p0), (2, .int p1), (3, .int p2)]) hx hb dX4_lots_147 hl (by decide) rfl (fun ls hl => ?_)
                  obtain ⟨x_16, ex_16⟩ : ∃ z : Int32, z = x5 + 1 := ⟨_, rfl⟩
                  refine lv_iinc (v := x_16) (lv' := [(5, .int x_16), (4, .int x_15), (6, .int r_10), (0, .ref a0), (1, .int p0), (2, .int p1), (3, .int p2)]) hx hb dX4_lots_149 hl (k := 2) rfl (by rw [ex_16]; rfl) (by decide) rfl (fun ls hl => ?_)
                  refine lv_goto (tgt := 52) hx hb dX4_lots_152 (by decide) ?_
                  exact ih_5 (j + 1) x_16 x_15 u_10 sd2 _ _ _ (by omega) (ni_add (a := j) (b := 1) ex_16 hx5 (rfl : (1 : Int32) = nI 1)) (by omega) (by have e8 : t = gg.n := (by omega); rw [e8] at hf2 hsd2; rw [ex_15, hx4, luF, luS, if_pos c_11, hr_10, hf2, hsd]) (by have e8 : t = gg.n := (by omega); rw [e8] at hf2 hsd2; rw [hsd2, luF, luS, hsd]) hP hD hS (lv_sub hl [0, 1, 3, 4, 5, 6] rfl)
                have n_9 : ¬ gg.n ≤ t := fun q => c_9 ((ni_le (a := gg.n) (b := t) hI.n0 hx6 (by omega) (by omega)).mpr q)
                have d_9 : x6 < (gg.r 0) := Int32.not_le.1 c_9
                have m_9 : t < gg.n := by omega
                refine lv_aload_n hx hb dX4_lots_83 rfl (lv_at hl 3 rfl) ?_
                refine va_get (D := D) (ci := 3) (v := .ref a2) (C := RX4) (T := TX4) (N := 13) hx hb hts hi_X4 hown hK.1 hP 0 rfl rfl 1 (by decide) hk_13 (fun _ h9 => h9) rfl dX4_lots_84 ?_
                refine lv_iload hx hb dX4_lots_87 (lv_at hl 0 rfl) ?_
                refine lv_iconst (v := 2) hx hb dX4_lots_89 (by decide) ?_
                refine xc_Si (As := [.int x6, .int 2]) (rest := [.ref a2]) ⟨hx, hb, hml, hown, hts⟩ (kX4_of l D cI x6 2 t 2 hx6 (rfl : (2 : Int32) = nI 2)) (va_cwS 2 hts gX4_lots_X4_of rfl rfl rfl hs_X4_of ⟨Nat.le_of_ble_eq_true rfl, Nat.le_of_ble_eq_true rfl⟩) hK hP [] rfl rfl hl.1 rfl (Nat.le_of_ble_eq_true rfl) dX4_lots_90 ⟨Nat.zero_le _, Nat.zero_le _⟩ (fun r_17 hr_17 => ?_)
                refine lv_aload_n hx hb dX4_lots_93 rfl (lv_at hl 3 rfl) ?_
                refine lv_iconst (v := 4) hx hb dX4_lots_94 (by decide) ?_
                refine xw_Vi (As := [.int 4]) (rest := [.int r_17, .ref a2]) (Wn := fun u => [(a0, .inr (3, [.ref a1, .ref a2, .ref a3, .ref a4, .int gg.hs, .ref a5, .ref a6, .ref a7, .int (nI gg.L), .int (nI gg.M), .int mm.pl, .ref a8, .int (lcg sd2)])), (a1, .inl (cI, 49, .inl gg.r)), (a2, .inl (cI, 49, .inl f2)), (a3, .inl (cI, 49, .inl gg.im)), (a4, .inl (cI, 49, .inl mm.ws)), (a5, .inl (cI, 96, .inl gg.lt)), (a6, .inl (cI, 16, .inl gg.rw)), (a7, .inl (cI, 7, .inl gg.rf)), (a8, .inl (cI, 3, .inl mm.nb))]) (Wr := [(a1, .inl (cI, 49, .inl gg.r)), (a2, .inl (cI, 49, .inl f2)), (a3, .inl (cI, 49, .inl gg.im)), (a4, .inl (cI, 49, .inl mm.ws)), (a5, .inl (cI, 96, .inl gg.lt)), (a6, .inl (cI, 16, .inl gg.rw)), (a7, .inl (cI, 7, .inl gg.rf)), (a8, .inl (cI, 3, .inl mm.nb))]) ⟨hx, hb, hml, hown, hts⟩ (kX4_drawn l D cI H.size a0 a1 a2 a3 a4 a5 a6 a7 a8 gg (f2, mm.ws, mm.nb, mm.pl, sd2) 4 rfl) (cwV 1 hts gX4_lots_X4_drawn rfl rfl rfl hv_X4_drawn ⟨Nat.le_of_ble_eq_true rfl, Nat.le_of_ble_eq_true rfl⟩) hK hP hD hS hA [0] [1, 2, 3, 4, 5, 6, 7, 8] [8, 0, 1, 2, 3, 4, 5, 6, 7] rfl rfl (by decide) (by decide) (by decide) (by decide) (fun u => rfl) 0 rfl rfl rfl hl.1 rfl (Nat.le_of_ble_eq_true rfl) dX4_lots_95 ⟨Nat.zero_le _, Nat.zero_le _⟩ (fun r_18 u_18 H locs hw_18 hP hD hS => ?_)
                refine xa_st hx hb hK hP hD hS 2 rfl (j := (oF t 2)) hr_17 (by unfold oF; omega) (by decide) dX4_lots_98 (fun H locs hP hD hS => ?_)
                obtain ⟨f_19, ef_19⟩ : ∃ z : Nat → Int32, z = upd f2 (oF t 2) r_18 := ⟨_, rfl⟩
                replace hP : va_P D vwCl [(a0, .inr (3, [.ref a1, .ref a2, .ref a3, .ref a4, .int gg.hs, .ref a5, .ref a6, .ref a7, .int (nI gg.L), .int (nI gg.M), .int mm.pl, .ref a8, .int (lcg sd2)])), (a1, .inl (cI, 49, .inl gg.r)), (a2, .inl (cI, 49, .inl (upd f2 (oF t 2) r_18))), (a3, .inl (cI, 49, .inl gg.im)), (a4, .inl (cI, 49, .inl mm.ws)), (a5, .inl (cI, 96, .inl gg.lt)), (a6, .inl (cI, 16, .inl gg.rw)), (a7, .inl (cI, 7, .inl gg.rf)), (a8, .inl (cI, 3, .inl mm.nb))] H := hP
                replace hD : va_D A [(a0, .inr (3, [.ref a1, .ref a2, .ref a3, .ref a4, .int gg.hs, .ref a5, .ref a6, .ref a7, .int (nI gg.L), .int (nI gg.M), .int mm.pl, .ref a8, .int (lcg sd2)])), (a1, .inl (cI, 49, .inl gg.r)), (a2, .inl (cI, 49, .inl (upd f2 (oF t 2) r_18))), (a3, .inl (cI, 49, .inl gg.im)), (a4, .inl (cI, 49, .inl mm.ws)), (a5, .inl (cI, 96, .inl gg.lt)), (a6, .inl (cI, 16, .inl gg.rw)), (a7, .inl (cI, 7, .inl gg.rf)), (a8, .inl (cI, 3, .inl mm.nb))] := hD
                rw [← ef_19] at hP hD
                refine lv_aload_n hx hb dX4_lots_99 rfl (lv_at hl 3 rfl) ?_
                refine va_get (D := D) (ci := 3) (v := .ref a2) (C := RX4) (T := TX4) (N := 13) hx hb hts hi_X4 hown hK.1 hP 0 rfl rfl 1 (by decide) hk_13 (fun _ h9 => h9) rfl dX4_lots_100 ?_
                refine lv_iload hx hb dX4_lots_103 (lv_at hl 0 rfl) ?_
                refine lv_iconst (v := 4) hx hb dX4_lots_105 (by decide) ?_
                refine xc_Si (As := [.int x6, .int 4]) (rest := [.ref a2]) ⟨hx, hb, hml, hown, hts⟩ (kX4_of l D cI x6 4 t 4 hx6 (rfl : (4 : Int32) = nI 4)) (va_cwS 2 hts gX4_lots_X4_of rfl rfl rfl hs_X4_of ⟨Nat.le_of_ble_eq_true rfl, Nat.le_of_ble_eq_true rfl⟩) hK hP [] rfl rfl hl.1 rfl (Nat.le_of_ble_eq_true rfl) dX4_lots_106 ⟨Nat.zero_le _, Nat.zero_le _⟩ (fun r_20 hr_20 => ?_)
                refine lv_iconst (v := 0) hx hb dX4_lots_109 (by decide) ?_
                refine xa_st hx hb hK hP hD hS 2 rfl (j := (oF t 4)) hr_20 (by unfold oF; omega) (by decide) dX4_lots_110 (fun H locs hP hD hS => ?_)
                obtain ⟨f_21, ef_21⟩ : ∃ z : Nat → Int32, z = upd f_19 (oF t 4) 0 := ⟨_, rfl⟩
                replace hP : va_P D vwCl [(a0, .inr (3, [.ref a1, .ref a2, .ref a3, .ref a4, .int gg.hs, .ref a5, .ref a6, .ref a7, .int (nI gg.L), .int (nI gg.M), .int mm.pl, .ref a8, .int (lcg sd2)])), (a1, .inl (cI, 49, .inl gg.r)), (a2, .inl (cI, 49, .inl (upd f_19 (oF t 4) 0))), (a3, .inl (cI, 49, .inl gg.im)), (a4, .inl (cI, 49, .inl mm.ws)), (a5, .inl (cI, 96, .inl gg.lt)), (a6, .inl (cI, 16, .inl gg.rw)), (a7, .inl (cI, 7, .inl gg.rf)), (a8, .inl (cI, 3, .inl mm.nb))] H := hP
                replace hD : va_D A [(a0, .inr (3, [.ref a1, .ref a2, .ref a3, .ref a4, .int gg.hs, .ref a5, .ref a6, .ref a7, .int (nI gg.L), .int (nI gg.M), .int mm.pl, .ref a8, .int (lcg sd2)])), (a1, .inl (cI, 49, .inl gg.r)), (a2, .inl (cI, 49, .inl (upd f_19 (oF t 4) 0))), (a3, .inl (cI, 49, .inl gg.im)), (a4, .inl (cI, 49, .inl mm.ws)), (a5, .inl (cI, 96, .inl gg.lt)), (a6, .inl (cI, 16, .inl gg.rw)), (a7, .inl (cI, 7, .inl gg.rf)), (a8, .inl (cI, 3, .inl mm.nb))] := hD
                rw [← ef_21] at hP hD
                have eh_21 : f_21 = setAb f2 t (drw (lcg sd2)) := by rw [ef_21, ef_19, hw_18]; rfl
                obtain ⟨x_22, ex_22⟩ : ∃ z : Int32, z = x6 + 1 := ⟨_, rfl⟩
                refine lv_iinc (v := x_22) (lv' := [(6, .int x_22), (5, .int x5), (4, .int x4), (0, .ref a0), (1, .int p0), (2, .int p1), (3, .int p2)]) hx hb dX4_lots_111 hl (k := 0) rfl (by rw [ex_22]; rfl) (by decide) rfl (fun ls hl => ?_)
                refine lv_goto (tgt := 72) hx hb dX4_lots_114 (by decide) ?_
                exact ih_8 (t + 1) x_22 f_21 (lcg sd2) _ _ _ (by omega) (ni_add (a := t) (b := 1) ex_22 hx6 (rfl : (1 : Int32) = nI 1)) (by omega) (by rw [eh_21, hf2, hsd2]; rfl) (by rw [hsd2]; rfl) hP hD hS (lv_sub hl [0, 1, 2, 3, 4, 5, 6] rfl)
            exact lp_72_8 ((gg.n - 0) + 1) 0 0 gg.r sd _ _ _ (by omega) (rfl : (0 : Int32) = nI 0) (by omega) rfl rfl hP hD hS (lv_sub hl [0, 1, 2, 3, 4, 5, 6] rfl)
        exact lp_52_5 ((kd - 0) + 1) 0 0 0 mm.m p1 _ _ _ (by omega) (rfl : (0 : Int32) = nI 0) (by omega) rfl rfl hP hD hS (lv_sub hl [0, 1, 2, 3, 4, 5] rfl)
      have hb_4 : isI p2 0 1 = false := bool_f (hr_3.trans isI_ite) c_4
      refine lv_aload_n hx hb dX4_lots_34 rfl (lv_at hl 0 rfl) ?_
      refine lv_bipush (v := (-2)) hx hb dX4_lots_35 (by decide) ?_
      refine xw_Vi (As := [.int (-2)]) (rest := []) (Wn := fun u => [(a0, .inr (3, [.ref a1, .ref a2, .ref a3, .ref a4, .int gg.hs, .ref a5, .ref a6, .ref a7, .int (nI gg.L), .int (nI gg.M), .int mm.pl, .ref a8, .int mm.sd])), (a1, .inl (cI, 49, .inl gg.r)), (a2, .inl (cI, 49, .inl mm.m)), (a3, .inl (cI, 49, .inl gg.im)), (a4, .inl (cI, 49, .inl mm.ws)), (a5, .inl (cI, 96, .inl gg.lt)), (a6, .inl (cI, 16, .inl gg.rw)), (a7, .inl (cI, 7, .inl (upd gg.rf (cN (-2)) (gg.rf (cN (-2)) + 1)))), (a8, .inl (cI, 3, .inl mm.nb))]) (Wr := [(a1, .inl (cI, 49, .inl gg.r)), (a2, .inl (cI, 49, .inl mm.m)), (a3, .inl (cI, 49, .inl gg.im)), (a4, .inl (cI, 49, .inl mm.ws)), (a5, .inl (cI, 96, .inl gg.lt)), (a6, .inl (cI, 16, .inl gg.rw)), (a8, .inl (cI, 3, .inl mm.nb))]) ⟨hx, hb, hml, hown, hts⟩ (kX4_no l D cI H.size a0 a1 a2 a3 a4 a5 a6 a7 a8 gg mm (-2) okc_2) (cwV 1 hts gX4_lots_X4_no rfl rfl rfl hv_X4_no ⟨Nat.le_of_ble_eq_true rfl, Nat.le_of_ble_eq_true rfl⟩) hK hP hD hS hA [0, 7] [1, 2, 3, 4, 5, 6, 8] [7, 0, 1, 2, 3, 4, 5, 8, 6] rfl rfl (by decide) (by decide) (by decide) (by decide) (fun u => rfl) 0 rfl rfl rfl hl.1 rfl (Nat.le_of_ble_eq_true rfl) dX4_lots_37 ⟨Nat.zero_le _, Nat.zero_le _⟩ (fun r_23 u_23 H locs hw_23 hP hD hS => ?_)
      exact hret 40 _ r_23 ((gg.n, gg.r, gg.m, gg.im, gg.hs, gg.lt, gg.L, gg.rw, gg.M, (upd gg.rf (cN (-2)) (gg.rf (cN (-2)) + 1))), mm) _ _ dX4_lots_40 (by first | (simp [sp_lots, rfz, us, c_1, c_2, c_4, tn_d, hb_4, hw_23]; done) | (simp [sp_lots, rfz, us, c_1, c_2, c_4, tn_d, hb_4, hw_23, isI]; done) | (simp [sp_lots, rfz, us, c_1, c_2, c_4, tn_d, hb_4, hw_23, wrB, lackF]; done)) hP hD hS
    have d_2 : 20 < p0 := Int32.not_le.1 c_2
    refine lv_aload_n hx hb dX4_lots_18 rfl (lv_at hl 0 rfl) ?_
    refine lv_bipush (v := (-6)) hx hb dX4_lots_19 (by decide) ?_
    refine xw_Vi (As := [.int (-6)]) (rest := []) (Wn := fun u => [(a0, .inr (3, [.ref a1, .ref a2, .ref a3, .ref a4, .int gg.hs, .ref a5, .ref a6, .ref a7, .int (nI gg.L), .int (nI gg.M), .int mm.pl, .ref a8, .int mm.sd])), (a1, .inl (cI, 49, .inl gg.r)), (a2, .inl (cI, 49, .inl mm.m)), (a3, .inl (cI, 49, .inl gg.im)), (a4, .inl (cI, 49, .inl mm.ws)), (a5, .inl (cI, 96, .inl gg.lt)), (a6, .inl (cI, 16, .inl gg.rw)), (a7, .inl (cI, 7, .inl (upd gg.rf (cN (-6)) (gg.rf (cN (-6)) + 1)))), (a8, .inl (cI, 3, .inl mm.nb))]) (Wr := [(a1, .inl (cI, 49, .inl gg.r)), (a2, .inl (cI, 49, .inl mm.m)), (a3, .inl (cI, 49, .inl gg.im)), (a4, .inl (cI, 49, .inl mm.ws)), (a5, .inl (cI, 96, .inl gg.lt)), (a6, .inl (cI, 16, .inl gg.rw)), (a8, .inl (cI, 3, .inl mm.nb))]) ⟨hx, hb, hml, hown, hts⟩ (kX4_no l D cI H.size a0 a1 a2 a3 a4 a5 a6 a7 a8 gg mm (-6) okc_6) (cwV 1 hts gX4_lots_X4_no rfl rfl rfl hv_X4_no ⟨Nat.le_of_ble_eq_true rfl, Nat.le_of_ble_eq_true rfl⟩) hK hP hD hS hA [0, 7] [1, 2, 3, 4, 5, 6, 8] [7, 0, 1, 2, 3, 4, 5, 8, 6] rfl rfl (by decide) (by decide) (by decide) (by decide) (fun u => rfl) 0 rfl rfl rfl hl.1 rfl (Nat.le_of_ble_eq_true rfl) dX4_lots_21 ⟨Nat.zero_le _, Nat.zero_le _⟩ (fun r_24 u_24 H locs hw_24 hP hD hS => ?_)
    exact hret 24 _ r_24 ((gg.n, gg.r, gg.m, gg.im, gg.hs, gg.lt, gg.L, gg.rw, gg.M, (upd gg.rf (cN (-6)) (gg.rf (cN (-6)) + 1))), mm) _ _ dX4_lots_24 (by first | (simp [sp_lots, rfz, us, c_1, c_2, hw_24]; done) | (simp [sp_lots, rfz, us, c_1, c_2, hw_24, isI]; done) | (simp [sp_lots, rfz, us, c_1, c_2, hw_24, wrB, lackF]; done)) hP hD hS
  have d_1 : p0 < 1 := Int32.not_le.1 c_1
  refine lv_aload_n hx hb dX4_lots_5 rfl (lv_at hl 0 rfl) ?_
  refine lv_bipush (v := (-4)) hx hb dX4_lots_6 (by decide) ?_
  refine xw_Vi (As := [.int (-4)]) (rest := []) (Wn := fun u => [(a0, .inr (3, [.ref a1, .ref a2, .ref a3, .ref a4, .int gg.hs, .ref a5, .ref a6, .ref a7, .int (nI gg.L), .int (nI gg.M), .int mm.pl, .ref a8, .int mm.sd])), (a1, .inl (cI, 49, .inl gg.r)), (a2, .inl (cI, 49, .inl mm.m)), (a3, .inl (cI, 49, .inl gg.im)), (a4, .inl (cI, 49, .inl mm.ws)), (a5, .inl (cI, 96, .inl gg.lt)), (a6, .inl (cI, 16, .inl gg.rw)), (a7, .inl (cI, 7, .inl (upd gg.rf (cN (-4)) (gg.rf (cN (-4)) + 1)))), (a8, .inl (cI, 3, .inl mm.nb))]) (Wr := [(a1, .inl (cI, 49, .inl gg.r)), (a2, .inl (cI, 49, .inl mm.m)), (a3, .inl (cI, 49, .inl gg.im)), (a4, .inl (cI, 49, .inl mm.ws)), (a5, .inl (cI, 96, .inl gg.lt)), (a6, .inl (cI, 16, .inl gg.rw)), (a8, .inl (cI, 3, .inl mm.nb))]) ⟨hx, hb, hml, hown, hts⟩ (kX4_no l D cI H.size a0 a1 a2 a3 a4 a5 a6 a7 a8 gg mm (-4) okc_4) (cwV 1 hts gX4_lots_X4_no rfl rfl rfl hv_X4_no ⟨Nat.le_of_ble_eq_true rfl, Nat.le_of_ble_eq_true rfl⟩) hK hP hD hS hA [0, 7] [1, 2, 3, 4, 5, 6, 8] [7, 0, 1, 2, 3, 4, 5, 8, 6] rfl rfl (by decide) (by decide) (by decide) (by decide) (fun u => rfl) 0 rfl rfl rfl hl.1 rfl (Nat.le_of_ble_eq_true rfl) dX4_lots_8 ⟨Nat.zero_le _, Nat.zero_le _⟩ (fun r_25 u_25 H locs hw_25 hP hD hS => ?_)
  exact hret 11 _ r_25 ((gg.n, gg.r, gg.m, gg.im, gg.hs, gg.lt, gg.L, gg.rw, gg.M, (upd gg.rf (cN (-4)) (gg.rf (cN (-4)) + 1))), mm) _ _ dX4_lots_11 (by first | (simp [sp_lots, rfz, us, c_1, hw_25]; done) | (simp [sp_lots, rfz, us, c_1, hw_25, isI]; done) | (simp [sp_lots, rfz, us, c_1, hw_25, wrB, lackF]; done)) hP hD hS


theorem hs_X4_keep : yX4_keep.cls ≠ "java/lang/invoke/MethodHandle" ∧ yX4_keep.cls ≠ "java/lang/invoke/VarHandle" ∧ (parseMethodDescriptor yX4_keep.desc).map (fun d => d.parameters.length) = some 1 := by decide +kernel
theorem hv_X4_keep : yX4_keep.cls = RX4 ∧ yX4_keep.cls ≠ "java/lang/invoke/MethodHandle" ∧ yX4_keep.cls ≠ "java/lang/invoke/VarHandle" ∧ (parseMethodDescriptor yX4_keep.desc).map (fun d => d.parameters.length) = some 1 := ⟨rfl, hs_X4_keep⟩
theorem hs_X4_hush : yX4_hush.cls ≠ "java/lang/invoke/MethodHandle" ∧ yX4_hush.cls ≠ "java/lang/invoke/VarHandle" ∧ (parseMethodDescriptor yX4_hush.desc).map (fun d => d.parameters.length) = some 1 := by decide +kernel
theorem hv_X4_hush : yX4_hush.cls = RX4 ∧ yX4_hush.cls ≠ "java/lang/invoke/MethodHandle" ∧ yX4_hush.cls ≠ "java/lang/invoke/VarHandle" ∧ (parseMethodDescriptor yX4_hush.desc).map (fun d => d.parameters.length) = some 1 := ⟨rfl, hs_X4_hush⟩
theorem hs_X4_add : yX4_add.cls ≠ "java/lang/invoke/MethodHandle" ∧ yX4_add.cls ≠ "java/lang/invoke/VarHandle" ∧ (parseMethodDescriptor yX4_add.desc).map (fun d => d.parameters.length) = some 3 := by decide +kernel
theorem hv_X4_add : yX4_add.cls = RX4 ∧ yX4_add.cls ≠ "java/lang/invoke/MethodHandle" ∧ yX4_add.cls ≠ "java/lang/invoke/VarHandle" ∧ (parseMethodDescriptor yX4_add.desc).map (fun d => d.parameters.length) = some 3 := ⟨rfl, hs_X4_add⟩
theorem hs_X4_cushion : yX4_cushion.cls ≠ "java/lang/invoke/MethodHandle" ∧ yX4_cushion.cls ≠ "java/lang/invoke/VarHandle" ∧ (parseMethodDescriptor yX4_cushion.desc).map (fun d => d.parameters.length) = some 1 := by decide +kernel
theorem hv_X4_cushion : yX4_cushion.cls = RX4 ∧ yX4_cushion.cls ≠ "java/lang/invoke/MethodHandle" ∧ yX4_cushion.cls ≠ "java/lang/invoke/VarHandle" ∧ (parseMethodDescriptor yX4_cushion.desc).map (fun d => d.parameters.length) = some 1 := ⟨rfl, hs_X4_cushion⟩
theorem hs_X4_softerBy : yX4_softerBy.cls ≠ "java/lang/invoke/MethodHandle" ∧ yX4_softerBy.cls ≠ "java/lang/invoke/VarHandle" ∧ (parseMethodDescriptor yX4_softerBy.desc).map (fun d => d.parameters.length) = some 7 := by decide +kernel
theorem hv_X4_softerBy : yX4_softerBy.cls = RX4 ∧ yX4_softerBy.cls ≠ "java/lang/invoke/MethodHandle" ∧ yX4_softerBy.cls ≠ "java/lang/invoke/VarHandle" ∧ (parseMethodDescriptor yX4_softerBy.desc).map (fun d => d.parameters.length) = some 7 := ⟨rfl, hs_X4_softerBy⟩
theorem hs_X4_two : yX4_two.cls ≠ "java/lang/invoke/MethodHandle" ∧ yX4_two.cls ≠ "java/lang/invoke/VarHandle" ∧ (parseMethodDescriptor yX4_two.desc).map (fun d => d.parameters.length) = some 3 := by decide +kernel
theorem hv_X4_two : yX4_two.cls = RX4 ∧ yX4_two.cls ≠ "java/lang/invoke/MethodHandle" ∧ yX4_two.cls ≠ "java/lang/invoke/VarHandle" ∧ (parseMethodDescriptor yX4_two.desc).map (fun d => d.parameters.length) = some 3 := ⟨rfl, hs_X4_two⟩
set_option maxHeartbeats 4000000 in
set_option maxRecDepth 100000 in
theorem kX4_keep (l : Launch) (D : va_G) (cI : ClassId) (sz : Nat) (a0 a1 a2 a3 a4 a5 a6 a7 a8 : Nat) (gg : GG) (mm : MS) (hG : Good gg) (p0 : Int32) : Met l yX4_keep wsX4_keep ({ frames := 8, cells := 0, slots := 0, locals := 176 }) (PRW D cI [.ref a0, .int p0] [(a0, .inr (3, [.ref a1, .ref a2, .ref a3, .ref a4, .int gg.hs, .ref a5, .ref a6, .ref a7, .int (nI gg.L), .int (nI gg.M), .int mm.pl, .ref a8, .int mm.sd])), (a1, .inl (cI, 49, .inl gg.r)), (a2, .inl (cI, 49, .inl mm.m)), (a3, .inl (cI, 49, .inl gg.im)), (a4, .inl (cI, 49, .inl mm.ws)), (a5, .inl (cI, 96, .inl gg.lt)), (a6, .inl (cI, 16, .inl gg.rw)), (a7, .inl (cI, 7, .inl gg.rf)), (a8, .inl (cI, 3, .inl mm.nb))] sz) (va_Qi (S := GG × MS) (fun v u => (v, u.1) = sp_keep gg p0) (BRW D [(a0, .inr (3, [.ref a1, .ref a2, .ref a3, .ref a4, .int gg.hs, .ref a5, .ref a6, .ref a7, .int (nI gg.L), .int (nI gg.M), .int mm.pl, .ref a8, .int mm.sd])), (a1, .inl (cI, 49, .inl gg.r)), (a2, .inl (cI, 49, .inl mm.m)), (a3, .inl (cI, 49, .inl gg.im)), (a4, .inl (cI, 49, .inl mm.ws)), (a5, .inl (cI, 96, .inl gg.lt)), (a6, .inl (cI, 16, .inl gg.rw)), (a7, .inl (cI, 7, .inl gg.rf)), (a8, .inl (cI, 3, .inl mm.nb))] sz (fun u => [(a0, .inr (3, [.ref a1, .ref a2, .ref a3, .ref a4, .int u.1.hs, .ref a5, .ref a6, .ref a7, .int (nI u.1.L), .int (nI u.1.M), .int u.2.pl, .ref a8, .int u.2.sd])), (a1, .inl (cI, 49, .inl u.1.r)), (a2, .inl (cI, 49, .inl u.2.m)), (a3, .inl (cI, 49, .inl u.1.im)), (a4, .inl (cI, 49, .inl u.2.ws)), (a5, .inl (cI, 96, .inl u.1.lt)), (a6, .inl (cI, 16, .inl u.1.rw)), (a7, .inl (cI, 7, .inl u.1.rf)), (a8, .inl (cI, 3, .inl u.2.nb))])) (va_A [(a0, .inr (3, [.ref a1, .ref a2, .ref a3, .ref a4, .int gg.hs, .ref a5, .ref a6, .ref a7, .int (nI gg.L), .int (nI gg.M), .int mm.pl, .ref a8, .int mm.sd])), (a1, .inl (cI, 49, .inl gg.r)), (a2, .inl (cI, 49, .inl mm.m)), (a3, .inl (cI, 49, .inl gg.im)), (a4, .inl (cI, 49, .inl mm.ws)), (a5, .inl (cI, 96, .inl gg.lt)), (a6, .inl (cI, 16, .inl gg.rw)), (a7, .inl (cI, 7, .inl gg.rf)), (a8, .inl (cI, 3, .inl mm.nb))] sz)) 0 0 (va_A [(a0, .inr (3, [.ref a1, .ref a2, .ref a3, .ref a4, .int gg.hs, .ref a5, .ref a6, .ref a7, .int (nI gg.L), .int (nI gg.M), .int mm.pl, .ref a8, .int mm.sd])), (a1, .inl (cI, 49, .inl gg.r)), (a2, .inl (cI, 49, .inl mm.m)), (a3, .inl (cI, 49, .inl gg.im)), (a4, .inl (cI, 49, .inl mm.ws)), (a5, .inl (cI, 96, .inl gg.lt)), (a6, .inl (cI, 16, .inl gg.rw)), (a7, .inl (cI, 7, .inl gg.rf)), (a8, .inl (cI, 3, .inl mm.nb))] sz) := by
  refine st_rwi (cc := cX4_keep) (maxL := 7) (rt := .int) (by decide) rfl (Nat.le_of_ble_eq_true rfl) (fun _ _ _ => rfl) ?_
  intro p e s m below meth c Q ls A hx hb hml hts hown hP hK hD hA hS hl hret
  replace hown : s.vm.findClass RX4 = some m.cls := hown
  replace hl : lv_has ls 7 [(0, .ref a0), (1, .int p0)] := hl
  obtain ⟨H, hH⟩ : ∃ z, z = s.heap := ⟨_, rfl⟩
  obtain ⟨locs, hlo⟩ : ∃ z : List Loc, z = [] := ⟨_, rfl⟩
  replace hP : va_P D vwCl [(a0, .inr (3, [.ref a1, .ref a2, .ref a3, .ref a4, .int gg.hs, .ref a5, .ref a6, .ref a7, .int (nI gg.L), .int (nI gg.M), .int mm.pl, .ref a8, .int mm.sd])), (a1, .inl (cI, 49, .inl gg.r)), (a2, .inl (cI, 49, .inl mm.m)), (a3, .inl (cI, 49, .inl gg.im)), (a4, .inl (cI, 49, .inl mm.ws)), (a5, .inl (cI, 96, .inl gg.lt)), (a6, .inl (cI, 16, .inl gg.rw)), (a7, .inl (cI, 7, .inl gg.rf)), (a8, .inl (cI, 3, .inl mm.nb))] H := by rw [hH]; exact hP
  replace hS : va_S A s.heap H locs := by rw [hH, hlo]; exact hS
  show W p l e ({ frames := 8, cells := 0, slots := 0, locals := 176 }) s m [.ref a0, .int p0].toArray below meth c s.heap [] 0 0 Q (F0 m 0 ls [])
  rw [← hlo]
  suffices hgo : W p l e ({ frames := 8, cells := 0, slots := 0, locals := 176 }) s m [.ref a0, .int p0].toArray below meth c H locs 0 0 Q (F0 m 0 ls []) by rw [hH] at hgo; exact hgo
  clear hH hlo
  have hi_X4 : ∀ w ∈ wsX40, w ∈ wsX4_keep := fun w h => List.mem_cons_of_mem _ (List.mem_append_right _ (h))
  have hk_9 := hts (.fieldLink RX4 9 "NestsOfTalkModel" "s" "[I") (List.mem_of_getElem? (i := 1) rfl)
  have hk_13 := hts (.fieldLink RX4 13 "NestsOfTalkModel" "m" "[I") (List.mem_of_getElem? (i := 2) rfl)
  have hI := hG.inv
  have hn9 := hI.le
  have hL96 := hG.L96
  have hM16 := hG.M16
  refine lv_iload_n hx hb dX4_keep_0 rfl (lv_at hl 1 rfl) ?_
  refine lv_iconst (v := 1) hx hb dX4_keep_1 (by decide) ?_
  refine lv_bipush (v := 60) hx hb dX4_keep_2 (by decide) ?_
  refine xc_Si (As := [.int p0, .int 1, .int 60]) (rest := []) ⟨hx, hb, hml, hown, hts⟩ (kX4_wrongBy l D cI p0 1 60) (va_cwS 3 hts gX4_keep_X4_wrongBy rfl rfl rfl hs_X4_wrongBy ⟨Nat.le_of_ble_eq_true rfl, Nat.le_of_ble_eq_true rfl⟩) hK hP [] rfl rfl hl.1 rfl (Nat.le_of_ble_eq_true rfl) dX4_keep_4 ⟨Nat.zero_le _, Nat.zero_le _⟩ (fun r_1 hr_1 => ?_)
  replace hr_1 : r_1 = wrB p0 1 60 := hr_1
  refine lv_istore_n (lv' := [(2, .int r_1), (0, .ref a0), (1, .int p0)]) hx hb dX4_keep_7 rfl hl (by decide) rfl (fun ls hl => ?_)
  refine lv_iload_n hx hb dX4_keep_8 rfl (lv_at hl 0 rfl) ?_
  refine lv_if_eq (tgt := 18) hx hb dX4_keep_9 (by decide) (fun c_2 => ?_) (fun c_2 => ?_)
  · skip
    have hv_2 : wrB p0 1 60 = 0 := hr_1.symm.trans c_2
    obtain ⟨v_2, vl_2, vu_2, ev_2⟩ := wrB_nat (a := 1) (b := 60) (rfl : (1 : Int32) = nI 1) (rfl : (60 : Int32) = nI 60) (by decide) (by decide) hv_2
    have tn_2 : tN p0 = v_2 := by rw [ev_2]; exact tN_nI (by omega)
    refine lv_aload_n hx hb dX4_keep_18 rfl (lv_at hl 1 rfl) ?_
    refine lv_iload_n hx hb dX4_keep_19 rfl (lv_at hl 2 rfl) ?_
    refine xw_Vi (As := [.int p0]) (rest := []) (Wn := fun u => [(a0, .inr (3, [.ref a1, .ref a2, .ref a3, .ref a4, .int gg.hs, .ref a5, .ref a6, .ref a7, .int (nI gg.L), .int (nI gg.M), .int mm.pl, .ref a8, .int mm.sd])), (a1, .inl (cI, 49, .inl gg.r)), (a2, .inl (cI, 49, .inl (dsR gg.r gg.n v_2))), (a3, .inl (cI, 49, .inl gg.im)), (a4, .inl (cI, 49, .inl mm.ws)), (a5, .inl (cI, 96, .inl gg.lt)), (a6, .inl (cI, 16, .inl gg.rw)), (a7, .inl (cI, 7, .inl gg.rf)), (a8, .inl (cI, 3, .inl mm.nb))]) (Wr := []) ⟨hx, hb, hml, hown, hts⟩ (kX4_takesOn l D cI H.size a0 a1 a2 a3 a4 a5 a6 a7 a8 gg mm hG p0 v_2 ev_2 (by omega)) (cwV 1 hts gX4_keep_X4_takesOn rfl rfl rfl hv_X4_takesOn ⟨Nat.le_of_ble_eq_true rfl, Nat.le_of_ble_eq_true rfl⟩) hK hP hD hS hA [0, 1, 2, 3, 4, 5, 6, 7, 8] [] [0, 1, 2, 3, 4, 5, 6, 7, 8] rfl rfl (by decide) (by decide) (by decide) (by decide) (fun u => rfl) 0 rfl rfl rfl hl.1 rfl (Nat.le_of_ble_eq_true rfl) dX4_keep_20 ⟨Nat.zero_le _, Nat.zero_le _⟩ (fun r_3 u_3 H locs hw_3 hP hD hS => ?_)
    have hI_3 : Inv gg.n (dsR gg.r gg.n v_2) := hI.idsR _
    refine lv_istore_n (lv' := [(3, .int r_3), (2, .int r_1), (0, .ref a0), (1, .int p0)]) hx hb dX4_keep_23 rfl hl (by decide) rfl (fun ls hl => ?_)
    refine lv_bipush (v := (-9)) hx hb dX4_keep_24 (by decide) ?_
    refine lv_istore (lv' := [(4, .int (-9)), (3, .int r_3), (2, .int r_1), (0, .ref a0), (1, .int p0)]) hx hb dX4_keep_26 hl (by decide) rfl (fun ls hl => ?_)
    refine lv_iconst (v := 0) hx hb dX4_keep_28 (by decide) ?_
    refine lv_istore (lv' := [(5, .int 0), (4, .int (-9)), (3, .int r_3), (2, .int r_1), (0, .ref a0), (1, .int p0)]) hx hb dX4_keep_29 hl (by decide) rfl (fun ls hl => ?_)
    have lp_31_4 : ∀ (fu : Nat) (j : Nat) (x5 : Int32) (x4 : Int32) (x3 : Int32) (f : RR) (ls : Array Slot) (H : Heap) (locs : List Loc), gg.n - j < fu → (x5 = nI j) → (j ≤ gg.n) → (x4 = (kpF gg.r gg.n v_2 j).1) → (x3 = (kpF gg.r gg.n v_2 j).2) → va_P D vwCl [(a0, .inr (3, [.ref a1, .ref a2, .ref a3, .ref a4, .int gg.hs, .ref a5, .ref a6, .ref a7, .int (nI gg.L), .int (nI gg.M), .int mm.pl, .ref a8, .int mm.sd])), (a1, .inl (cI, 49, .inl gg.r)), (a2, .inl (cI, 49, .inl f)), (a3, .inl (cI, 49, .inl gg.im)), (a4, .inl (cI, 49, .inl mm.ws)), (a5, .inl (cI, 96, .inl gg.lt)), (a6, .inl (cI, 16, .inl gg.rw)), (a7, .inl (cI, 7, .inl gg.rf)), (a8, .inl (cI, 3, .inl mm.nb))] H → va_D A [(a0, .inr (3, [.ref a1, .ref a2, .ref a3, .ref a4, .int gg.hs, .ref a5, .ref a6, .ref a7, .int (nI gg.L), .int (nI gg.M), .int mm.pl, .ref a8, .int mm.sd])), (a1, .inl (cI, 49, .inl gg.r)), (a2, .inl (cI, 49, .inl f)), (a3, .inl (cI, 49, .inl gg.im)), (a4, .inl (cI, 49, .inl mm.ws)), (a5, .inl (cI, 96, .inl gg.lt)), (a6, .inl (cI, 16, .inl gg.rw)), (a7, .inl (cI, 7, .inl gg.rf)), (a8, .inl (cI, 3, .inl mm.nb))] → va_S A s.heap H locs → lv_has ls 7 [(5, .int x5), (4, .int x4), (3, .int x3), (0, .ref a0), (1, .int p0)] → W p l e ({ frames := 8, cells := 0, slots := 0, locals := 176 }) s m [.ref a0, .int p0].toArray below meth c H locs 0 0 Q (F0 m 31 ls []) := by
      intro fu
      induction fu with
      | zero =>
        intro j x5 x4 x3 f ls H locs hfu
        exact absurd hfu (Nat.not_lt_zero _)
      | succ fu ih_4 =>
        intro j x5 x4 x3 f ls H locs hfu hx5 hi hx4 hx3 hP hD hS hl
        refine lv_iload hx hb dX4_keep_31 (lv_at hl 0 rfl) ?_
        refine lv_aload_n hx hb dX4_keep_33 rfl (lv_at hl 3 rfl) ?_
        refine va_get (D := D) (ci := 3) (v := .ref a1) (C := RX4) (T := TX4) (N := 13) hx hb hts hi_X4 hown hK.1 hP 0 rfl rfl 0 (by decide) hk_9 (fun _ h9 => h9) rfl dX4_keep_34 ?_
        refine lv_iconst (v := 0) hx hb dX4_keep_37 (by decide) ?_
        refine xa_ld hx hb hK hP 1 rfl (j := 0) (rfl : (0 : Int32) = nI 0) (by omega) (by decide) dX4_keep_38 ?_
        refine lv_icmp_ge (tgt := 93) hx hb dX4_keep_39 (by decide) (fun c_5 => ?_) (fun c_5 => ?_)
        · skip
          have n_5 : gg.n ≤ j := (ni_le (a := gg.n) (b := j) hI.n0 hx5 (by omega) (by omega)).mp c_5
          have d_5 : ¬ x5 < (gg.r 0) := Int32.not_lt.2 c_5
          have m_5 : ¬ j < gg.n := by omega
          refine lv_iload hx hb dX4_keep_93 (lv_at hl 1 rfl) ?_
          exact hret 95 _ x4 (gg, (f, mm.ws, mm.nb, mm.pl, mm.sd)) _ _ dX4_keep_95 (by have e9 : j = gg.n := (by omega); subst e9; simp [sp_keep, hx4, hv_2, tn_2]) hP hD hS
        have n_5 : ¬ gg.n ≤ j := fun q => c_5 ((ni_le (a := gg.n) (b := j) hI.n0 hx5 (by omega) (by omega)).mpr q)
        have d_5 : x5 < (gg.r 0) := Int32.not_le.1 c_5
        have m_5 : j < gg.n := by omega
        refine lv_aload_n hx hb dX4_keep_42 rfl (lv_at hl 3 rfl) ?_
        refine va_get (D := D) (ci := 3) (v := .ref a1) (C := RX4) (T := TX4) (N := 13) hx hb hts hi_X4 hown hK.1 hP 0 rfl rfl 0 (by decide) hk_9 (fun _ h9 => h9) rfl dX4_keep_43 ?_
        refine lv_aload_n hx hb dX4_keep_46 rfl (lv_at hl 3 rfl) ?_
        refine va_get (D := D) (ci := 3) (v := .ref a2) (C := RX4) (T := TX4) (N := 13) hx hb hts hi_X4 hown hK.1 hP 0 rfl rfl 1 (by decide) hk_13 (fun _ h9 => h9) rfl dX4_keep_47 ?_
        refine xw_Sv (As := [.ref a1, .ref a2]) (rest := []) (Wn := fun u => [(a0, .inr (3, [.ref a1, .ref a2, .ref a3, .ref a4, .int gg.hs, .ref a5, .ref a6, .ref a7, .int (nI gg.L), .int (nI gg.M), .int mm.pl, .ref a8, .int mm.sd])), (a1, .inl (cI, 49, .inl gg.r)), (a2, .inl (cI, 49, .inl gg.r)), (a3, .inl (cI, 49, .inl gg.im)), (a4, .inl (cI, 49, .inl mm.ws)), (a5, .inl (cI, 96, .inl gg.lt)), (a6, .inl (cI, 16, .inl gg.rw)), (a7, .inl (cI, 7, .inl gg.rf)), (a8, .inl (cI, 3, .inl mm.nb))]) (Wr := [(a0, .inr (3, [.ref a1, .ref a2, .ref a3, .ref a4, .int gg.hs, .ref a5, .ref a6, .ref a7, .int (nI gg.L), .int (nI gg.M), .int mm.pl, .ref a8, .int mm.sd])), (a3, .inl (cI, 49, .inl gg.im)), (a4, .inl (cI, 49, .inl mm.ws)), (a5, .inl (cI, 96, .inl gg.lt)), (a6, .inl (cI, 16, .inl gg.rw)), (a7, .inl (cI, 7, .inl gg.rf)), (a8, .inl (cI, 3, .inl mm.nb))]) ⟨hx, hb, hml, hown, hts⟩ (kX4_copies l D cI H.size a1 a2 gg.r f) (va_cwS 2 hts gX4_keep_X4_copies rfl rfl rfl hs_X4_copies ⟨Nat.le_of_ble_eq_true rfl, Nat.le_of_ble_eq_true rfl⟩) hK hP hD hS hA [1, 2] [0, 3, 4, 5, 6, 7, 8] [0, 7, 8, 1, 2, 3, 4, 5, 6] rfl rfl (by decide) (by decide) (by decide) (by decide) (fun u => rfl) rfl hl.1 rfl (Nat.le_of_ble_eq_true rfl) dX4_keep_50 ⟨Nat.zero_le _, Nat.zero_le _⟩ (fun u_6 H locs hw_6 hP hD hS => ?_)
        refine lv_aload_n hx hb dX4_keep_53 rfl (lv_at hl 3 rfl) ?_
        refine va_get (D := D) (ci := 3) (v := .ref a2) (C := RX4) (T := TX4) (N := 13) hx hb hts hi_X4 hown hK.1 hP 0 rfl rfl 1 (by decide) hk_13 (fun _ h9 => h9) rfl dX4_keep_54 ?_
        refine lv_iconst (v := 3) hx hb dX4_keep_57 (by decide) ?_
        refine lv_iload hx hb dX4_keep_58 (lv_at hl 0 rfl) ?_
        refine xa_st hx hb hK hP hD hS 2 rfl (j := 3) (rfl : (3 : Int32) = nI 3) (by omega) (by decide) dX4_keep_60 (fun H locs hP hD hS => ?_)
        obtain ⟨f_7, ef_7⟩ : ∃ z : Nat → Int32, z = upd gg.r 3 x5 := ⟨_, rfl⟩
        replace hP : va_P D vwCl [(a0, .inr (3, [.ref a1, .ref a2, .ref a3, .ref a4, .int gg.hs, .ref a5, .ref a6, .ref a7, .int (nI gg.L), .int (nI gg.M), .int mm.pl, .ref a8, .int mm.sd])), (a1, .inl (cI, 49, .inl gg.r)), (a2, .inl (cI, 49, .inl (upd gg.r 3 x5))), (a3, .inl (cI, 49, .inl gg.im)), (a4, .inl (cI, 49, .inl mm.ws)), (a5, .inl (cI, 96, .inl gg.lt)), (a6, .inl (cI, 16, .inl gg.rw)), (a7, .inl (cI, 7, .inl gg.rf)), (a8, .inl (cI, 3, .inl mm.nb))] H := hP
        replace hD : va_D A [(a0, .inr (3, [.ref a1, .ref a2, .ref a3, .ref a4, .int gg.hs, .ref a5, .ref a6, .ref a7, .int (nI gg.L), .int (nI gg.M), .int mm.pl, .ref a8, .int mm.sd])), (a1, .inl (cI, 49, .inl gg.r)), (a2, .inl (cI, 49, .inl (upd gg.r 3 x5))), (a3, .inl (cI, 49, .inl gg.im)), (a4, .inl (cI, 49, .inl mm.ws)), (a5, .inl (cI, 96, .inl gg.lt)), (a6, .inl (cI, 16, .inl gg.rw)), (a7, .inl (cI, 7, .inl gg.rf)), (a8, .inl (cI, 3, .inl mm.nb))] := hD
        rw [← ef_7] at hP hD
        have hI_f_7 : Inv gg.n f_7 := (by rw [ef_7]; exact Inv.u3 hI (by omega) (by omega) _)
        refine lv_aload_n hx hb dX4_keep_61 rfl (lv_at hl 3 rfl) ?_
        refine va_get (D := D) (ci := 3) (v := .ref a2) (C := RX4) (T := TX4) (N := 13) hx hb hts hi_X4 hown hK.1 hP 0 rfl rfl 1 (by decide) hk_13 (fun _ h9 => h9) rfl dX4_keep_62 ?_
        refine lv_iload_n hx hb dX4_keep_65 rfl (lv_at hl 4 rfl) ?_
        refine xw_Si (As := [.ref a2, .int p0]) (rest := []) (Wn := fun u => [(a0, .inr (3, [.ref a1, .ref a2, .ref a3, .ref a4, .int gg.hs, .ref a5, .ref a6, .ref a7, .int (nI gg.L), .int (nI gg.M), .int mm.pl, .ref a8, .int mm.sd])), (a1, .inl (cI, 49, .inl gg.r)), (a2, .inl (cI, 49, .inl u)), (a3, .inl (cI, 49, .inl gg.im)), (a4, .inl (cI, 49, .inl mm.ws)), (a5, .inl (cI, 96, .inl gg.lt)), (a6, .inl (cI, 16, .inl gg.rw)), (a7, .inl (cI, 7, .inl gg.rf)), (a8, .inl (cI, 3, .inl mm.nb))]) (Wr := [(a0, .inr (3, [.ref a1, .ref a2, .ref a3, .ref a4, .int gg.hs, .ref a5, .ref a6, .ref a7, .int (nI gg.L), .int (nI gg.M), .int mm.pl, .ref a8, .int mm.sd])), (a1, .inl (cI, 49, .inl gg.r)), (a3, .inl (cI, 49, .inl gg.im)), (a4, .inl (cI, 49, .inl mm.ws)), (a5, .inl (cI, 96, .inl gg.lt)), (a6, .inl (cI, 16, .inl gg.rw)), (a7, .inl (cI, 7, .inl gg.rf)), (a8, .inl (cI, 3, .inl mm.nb))]) ⟨hx, hb, hml, hown, hts⟩ (kX4_daysOn l D cI H.size a2 f_7 gg.n hI_f_7 p0 v_2 ev_2 (by omega)) (va_cwS 2 hts gX4_keep_X4_daysOn rfl rfl rfl hs_X4_daysOn ⟨Nat.le_of_ble_eq_true rfl, Nat.le_of_ble_eq_true rfl⟩) hK hP hD hS hA [2] [0, 1, 3, 4, 5, 6, 7, 8] [0, 1, 8, 2, 3, 4, 5, 6, 7] rfl rfl (by decide) (by decide) (by decide) (by decide) (fun u => rfl) rfl hl.1 rfl (Nat.le_of_ble_eq_true rfl) dX4_keep_66 ⟨Nat.zero_le _, Nat.zero_le _⟩ (fun r_8 u_8 H locs hw_8 hP hD hS => ?_)
        obtain ⟨hr_8, hu_8⟩ := hw_8
        have hI_u_8 : Inv gg.n u_8 := (by rw [hu_8]; exact hI_f_7.idsR _)
        refine lv_istore (lv' := [(6, .int r_8), (5, .int x5), (4, .int x4), (3, .int x3), (0, .ref a0), (1, .int p0)]) hx hb dX4_keep_69 hl (by decide) rfl (fun ls hl => ?_)
        refine lv_iload hx hb dX4_keep_71 (lv_at hl 0 rfl) ?_
        refine lv_iload_n hx hb dX4_keep_73 rfl (lv_at hl 3 rfl) ?_
        refine lv_icmp_lt (tgt := 80) hx hb dX4_keep_74 (by decide) (fun c_9 => ?_) (fun c_9 => ?_)
        · skip
          have d_9 : ¬ x3 ≤ r_8 := Int32.not_le.2 c_9
          refine lv_iload hx hb dX4_keep_80 (lv_at hl 1 rfl) ?_
          refine lv_istore (lv' := [(4, .int x5), (6, .int r_8), (5, .int x5), (3, .int x3), (0, .ref a0), (1, .int p0)]) hx hb dX4_keep_82 hl (by decide) rfl (fun ls hl => ?_)
          refine lv_iload hx hb dX4_keep_84 (lv_at hl 1 rfl) ?_
          refine lv_istore_n (lv' := [(3, .int r_8), (4, .int x5), (6, .int r_8), (5, .int x5), (0, .ref a0), (1, .int p0)]) hx hb dX4_keep_86 rfl hl (by decide) rfl (fun ls hl => ?_)
          obtain ⟨x_10, ex_10⟩ : ∃ z : Int32, z = x5 + 1 := ⟨_, rfl⟩
          refine lv_iinc (v := x_10) (lv' := [(5, .int x_10), (3, .int r_8), (4, .int x5), (6, .int r_8), (0, .ref a0), (1, .int p0)]) hx hb dX4_keep_87 hl (k := 3) rfl (by rw [ex_10]; rfl) (by decide) rfl (fun ls hl => ?_)
          refine lv_goto (tgt := 31) hx hb dX4_keep_90 (by decide) ?_
          exact ih_4 (j + 1) x_10 x5 r_8 u_8 _ _ _ (by omega) (ni_add (a := j) (b := 1) ex_10 hx5 (rfl : (1 : Int32) = nI 1)) (by omega) (by rw [kpF]; simp only [← hx5, ← hx4, ← hx3]; first | (simp only [not_true_eq_false, not_false_eq_true, false_and, and_false, true_and, and_true, or_true, true_or, or_false, false_or, if_true, if_false, Bool.false_eq_true, Bool.true_eq_false, reduceCtorEq, and_self, or_self, ← hx5, ← hx4, ← hx3, ← hr_1, ← hw_3, ← ef_7, ← hu_8, ← hr_8, ← ex_10, c_2, c_5, c_9, n_5, d_5, m_5, d_9]; done) | (simp only [not_true_eq_false, not_false_eq_true, false_and, and_false, true_and, and_true, or_true, true_or, or_false, false_or, if_true, if_false, Bool.false_eq_true, Bool.true_eq_false, reduceCtorEq, and_self, or_self, ← hx5, ← hx4, ← hx3, ← hr_1, ← hw_3, ← ef_7, ← hu_8, ← hr_8, ← ex_10, c_2, c_5, c_9, n_5, d_5, m_5, d_9]; simp only [hr_1, hw_3, ef_7, hu_8, hr_8, ex_10]; done) | (simp [← hx5, ← hx4, ← hx3, ← hr_1, ← hw_3, ← ef_7, ← hu_8, ← hr_8, ← ex_10, c_2, c_5, c_9, n_5, d_5, m_5, d_9]; done)) (by rw [kpF]; simp only [← hx5, ← hx4, ← hx3]; first | (simp only [not_true_eq_false, not_false_eq_true, false_and, and_false, true_and, and_true, or_true, true_or, or_false, false_or, if_true, if_false, Bool.false_eq_true, Bool.true_eq_false, reduceCtorEq, and_self, or_self, ← hx5, ← hx4, ← hx3, ← hr_1, ← hw_3, ← ef_7, ← hu_8, ← hr_8, ← ex_10, c_2, c_5, c_9, n_5, d_5, m_5, d_9]; done) | (simp only [not_true_eq_false, not_false_eq_true, false_and, and_false, true_and, and_true, or_true, true_or, or_false, false_or, if_true, if_false, Bool.false_eq_true, Bool.true_eq_false, reduceCtorEq, and_self, or_self, ← hx5, ← hx4, ← hx3, ← hr_1, ← hw_3, ← ef_7, ← hu_8, ← hr_8, ← ex_10, c_2, c_5, c_9, n_5, d_5, m_5, d_9]; simp only [hr_1, hw_3, ef_7, hu_8, hr_8, ex_10]; done) | (simp [← hx5, ← hx4, ← hx3, ← hr_1, ← hw_3, ← ef_7, ← hu_8, ← hr_8, ← ex_10, c_2, c_5, c_9, n_5, d_5, m_5, d_9]; done)) hP hD hS (lv_sub hl [0, 2, 1, 4, 5] rfl)
        have d_9 : x3 ≤ r_8 := Int32.not_lt.1 c_9
        refine lv_goto (tgt := 87) hx hb dX4_keep_77 (by decide) ?_
        obtain ⟨x_11, ex_11⟩ : ∃ z : Int32, z = x5 + 1 := ⟨_, rfl⟩
        refine lv_iinc (v := x_11) (lv' := [(5, .int x_11), (6, .int r_8), (4, .int x4), (3, .int x3), (0, .ref a0), (1, .int p0)]) hx hb dX4_keep_87 hl (k := 1) rfl (by rw [ex_11]; rfl) (by decide) rfl (fun ls hl => ?_)
        refine lv_goto (tgt := 31) hx hb dX4_keep_90 (by decide) ?_
        exact ih_4 (j + 1) x_11 x4 x3 u_8 _ _ _ (by omega) (ni_add (a := j) (b := 1) ex_11 hx5 (rfl : (1 : Int32) = nI 1)) (by omega) (by rw [kpF]; simp only [← hx5, ← hx4, ← hx3]; first | (simp only [not_true_eq_false, not_false_eq_true, false_and, and_false, true_and, and_true, or_true, true_or, or_false, false_or, if_true, if_false, Bool.false_eq_true, Bool.true_eq_false, reduceCtorEq, and_self, or_self, ← hx5, ← hx4, ← hx3, ← hr_1, ← hw_3, ← ef_7, ← hu_8, ← hr_8, ← ex_11, c_2, c_5, c_9, n_5, d_5, m_5, d_9]; done) | (simp only [not_true_eq_false, not_false_eq_true, false_and, and_false, true_and, and_true, or_true, true_or, or_false, false_or, if_true, if_false, Bool.false_eq_true, Bool.true_eq_false, reduceCtorEq, and_self, or_self, ← hx5, ← hx4, ← hx3, ← hr_1, ← hw_3, ← ef_7, ← hu_8, ← hr_8, ← ex_11, c_2, c_5, c_9, n_5, d_5, m_5, d_9]; simp only [hr_1, hw_3, ef_7, hu_8, hr_8, ex_11]; done) | (simp [← hx5, ← hx4, ← hx3, ← hr_1, ← hw_3, ← ef_7, ← hu_8, ← hr_8, ← ex_11, c_2, c_5, c_9, n_5, d_5, m_5, d_9]; done)) (by rw [kpF]; simp only [← hx5, ← hx4, ← hx3]; first | (simp only [not_true_eq_false, not_false_eq_true, false_and, and_false, true_and, and_true, or_true, true_or, or_false, false_or, if_true, if_false, Bool.false_eq_true, Bool.true_eq_false, reduceCtorEq, and_self, or_self, ← hx5, ← hx4, ← hx3, ← hr_1, ← hw_3, ← ef_7, ← hu_8, ← hr_8, ← ex_11, c_2, c_5, c_9, n_5, d_5, m_5, d_9]; done) | (simp only [not_true_eq_false, not_false_eq_true, false_and, and_false, true_and, and_true, or_true, true_or, or_false, false_or, if_true, if_false, Bool.false_eq_true, Bool.true_eq_false, reduceCtorEq, and_self, or_self, ← hx5, ← hx4, ← hx3, ← hr_1, ← hw_3, ← ef_7, ← hu_8, ← hr_8, ← ex_11, c_2, c_5, c_9, n_5, d_5, m_5, d_9]; simp only [hr_1, hw_3, ef_7, hu_8, hr_8, ex_11]; done) | (simp [← hx5, ← hx4, ← hx3, ← hr_1, ← hw_3, ← ef_7, ← hu_8, ← hr_8, ← ex_11, c_2, c_5, c_9, n_5, d_5, m_5, d_9]; done)) hP hD hS (lv_sub hl [0, 2, 3, 4, 5] rfl)
    exact lp_31_4 ((gg.n - 0) + 1) 0 0 (-9) r_3 (dsR gg.r gg.n v_2) _ _ _ (by omega) (rfl : (0 : Int32) = nI 0) (by omega) rfl hw_3 hP hD hS (lv_sub hl [0, 1, 2, 4, 5] rfl)
  have hv_2 : ¬ wrB p0 1 60 = 0 := fun q => c_2 (hr_1.trans q)
  refine lv_aload_n hx hb dX4_keep_12 rfl (lv_at hl 1 rfl) ?_
  refine lv_iload_n hx hb dX4_keep_13 rfl (lv_at hl 0 rfl) ?_
  refine xw_Vi (As := [.int r_1]) (rest := []) (Wn := fun u => [(a0, .inr (3, [.ref a1, .ref a2, .ref a3, .ref a4, .int gg.hs, .ref a5, .ref a6, .ref a7, .int (nI gg.L), .int (nI gg.M), .int mm.pl, .ref a8, .int mm.sd])), (a1, .inl (cI, 49, .inl gg.r)), (a2, .inl (cI, 49, .inl mm.m)), (a3, .inl (cI, 49, .inl gg.im)), (a4, .inl (cI, 49, .inl mm.ws)), (a5, .inl (cI, 96, .inl gg.lt)), (a6, .inl (cI, 16, .inl gg.rw)), (a7, .inl (cI, 7, .inl (upd gg.rf (cN r_1) (gg.rf (cN r_1) + 1)))), (a8, .inl (cI, 3, .inl mm.nb))]) (Wr := [(a1, .inl (cI, 49, .inl gg.r)), (a2, .inl (cI, 49, .inl mm.m)), (a3, .inl (cI, 49, .inl gg.im)), (a4, .inl (cI, 49, .inl mm.ws)), (a5, .inl (cI, 96, .inl gg.lt)), (a6, .inl (cI, 16, .inl gg.rw)), (a8, .inl (cI, 3, .inl mm.nb))]) ⟨hx, hb, hml, hown, hts⟩ (kX4_no l D cI H.size a0 a1 a2 a3 a4 a5 a6 a7 a8 gg mm r_1 (okc_of hr_1 c_2)) (cwV 1 hts gX4_keep_X4_no rfl rfl rfl hv_X4_no ⟨Nat.le_of_ble_eq_true rfl, Nat.le_of_ble_eq_true rfl⟩) hK hP hD hS hA [0, 7] [1, 2, 3, 4, 5, 6, 8] [7, 0, 1, 2, 3, 4, 5, 8, 6] rfl rfl (by decide) (by decide) (by decide) (by decide) (fun u => rfl) 0 rfl rfl rfl hl.1 rfl (Nat.le_of_ble_eq_true rfl) dX4_keep_14 ⟨Nat.zero_le _, Nat.zero_le _⟩ (fun r_12 u_12 H locs hw_12 hP hD hS => ?_)
  exact hret 17 _ r_12 ((gg.n, gg.r, gg.m, gg.im, gg.hs, gg.lt, gg.L, gg.rw, gg.M, (upd gg.rf (cN r_1) (gg.rf (cN r_1) + 1))), mm) _ _ dX4_keep_17 (by first | (simp [sp_keep, rfz, us, c_2, hv_2, hw_12, hr_1]; done) | (simp [sp_keep, rfz, us, c_2, hv_2, hw_12, hr_1, isI]; done) | (simp [sp_keep, rfz, us, c_2, hv_2, hw_12, hr_1, wrB, lackF]; done)) hP hD hS

set_option maxHeartbeats 4000000 in
set_option maxRecDepth 100000 in
theorem kX4_hush (l : Launch) (D : va_G) (cI : ClassId) (sz : Nat) (a0 a1 a2 a3 a4 a5 a6 a7 a8 : Nat) (gg : GG) (mm : MS) (hG : Good gg) (p0 : Int32) : Met l yX4_hush wsX4_hush ({ frames := 8, cells := 0, slots := 0, locals := 176 }) (PRW D cI [.ref a0, .int p0] [(a0, .inr (3, [.ref a1, .ref a2, .ref a3, .ref a4, .int gg.hs, .ref a5, .ref a6, .ref a7, .int (nI gg.L), .int (nI gg.M), .int mm.pl, .ref a8, .int mm.sd])), (a1, .inl (cI, 49, .inl gg.r)), (a2, .inl (cI, 49, .inl mm.m)), (a3, .inl (cI, 49, .inl gg.im)), (a4, .inl (cI, 49, .inl mm.ws)), (a5, .inl (cI, 96, .inl gg.lt)), (a6, .inl (cI, 16, .inl gg.rw)), (a7, .inl (cI, 7, .inl gg.rf)), (a8, .inl (cI, 3, .inl mm.nb))] sz) (va_Qi (S := GG × MS) (fun v u => (v, u.1) = sp_hush gg p0) (BRW D [(a0, .inr (3, [.ref a1, .ref a2, .ref a3, .ref a4, .int gg.hs, .ref a5, .ref a6, .ref a7, .int (nI gg.L), .int (nI gg.M), .int mm.pl, .ref a8, .int mm.sd])), (a1, .inl (cI, 49, .inl gg.r)), (a2, .inl (cI, 49, .inl mm.m)), (a3, .inl (cI, 49, .inl gg.im)), (a4, .inl (cI, 49, .inl mm.ws)), (a5, .inl (cI, 96, .inl gg.lt)), (a6, .inl (cI, 16, .inl gg.rw)), (a7, .inl (cI, 7, .inl gg.rf)), (a8, .inl (cI, 3, .inl mm.nb))] sz (fun u => [(a0, .inr (3, [.ref a1, .ref a2, .ref a3, .ref a4, .int u.1.hs, .ref a5, .ref a6, .ref a7, .int (nI u.1.L), .int (nI u.1.M), .int u.2.pl, .ref a8, .int u.2.sd])), (a1, .inl (cI, 49, .inl u.1.r)), (a2, .inl (cI, 49, .inl u.2.m)), (a3, .inl (cI, 49, .inl u.1.im)), (a4, .inl (cI, 49, .inl u.2.ws)), (a5, .inl (cI, 96, .inl u.1.lt)), (a6, .inl (cI, 16, .inl u.1.rw)), (a7, .inl (cI, 7, .inl u.1.rf)), (a8, .inl (cI, 3, .inl u.2.nb))])) (va_A [(a0, .inr (3, [.ref a1, .ref a2, .ref a3, .ref a4, .int gg.hs, .ref a5, .ref a6, .ref a7, .int (nI gg.L), .int (nI gg.M), .int mm.pl, .ref a8, .int mm.sd])), (a1, .inl (cI, 49, .inl gg.r)), (a2, .inl (cI, 49, .inl mm.m)), (a3, .inl (cI, 49, .inl gg.im)), (a4, .inl (cI, 49, .inl mm.ws)), (a5, .inl (cI, 96, .inl gg.lt)), (a6, .inl (cI, 16, .inl gg.rw)), (a7, .inl (cI, 7, .inl gg.rf)), (a8, .inl (cI, 3, .inl mm.nb))] sz)) 0 0 (va_A [(a0, .inr (3, [.ref a1, .ref a2, .ref a3, .ref a4, .int gg.hs, .ref a5, .ref a6, .ref a7, .int (nI gg.L), .int (nI gg.M), .int mm.pl, .ref a8, .int mm.sd])), (a1, .inl (cI, 49, .inl gg.r)), (a2, .inl (cI, 49, .inl mm.m)), (a3, .inl (cI, 49, .inl gg.im)), (a4, .inl (cI, 49, .inl mm.ws)), (a5, .inl (cI, 96, .inl gg.lt)), (a6, .inl (cI, 16, .inl gg.rw)), (a7, .inl (cI, 7, .inl gg.rf)), (a8, .inl (cI, 3, .inl mm.nb))] sz) := by
  refine st_rwi (cc := cX4_hush) (maxL := 7) (rt := .int) (by decide) rfl (Nat.le_of_ble_eq_true rfl) (fun _ _ _ => rfl) ?_
  intro p e s m below meth c Q ls A hx hb hml hts hown hP hK hD hA hS hl hret
  replace hown : s.vm.findClass RX4 = some m.cls := hown
  replace hl : lv_has ls 7 [(0, .ref a0), (1, .int p0)] := hl
  obtain ⟨H, hH⟩ : ∃ z, z = s.heap := ⟨_, rfl⟩
  obtain ⟨locs, hlo⟩ : ∃ z : List Loc, z = [] := ⟨_, rfl⟩
  replace hP : va_P D vwCl [(a0, .inr (3, [.ref a1, .ref a2, .ref a3, .ref a4, .int gg.hs, .ref a5, .ref a6, .ref a7, .int (nI gg.L), .int (nI gg.M), .int mm.pl, .ref a8, .int mm.sd])), (a1, .inl (cI, 49, .inl gg.r)), (a2, .inl (cI, 49, .inl mm.m)), (a3, .inl (cI, 49, .inl gg.im)), (a4, .inl (cI, 49, .inl mm.ws)), (a5, .inl (cI, 96, .inl gg.lt)), (a6, .inl (cI, 16, .inl gg.rw)), (a7, .inl (cI, 7, .inl gg.rf)), (a8, .inl (cI, 3, .inl mm.nb))] H := by rw [hH]; exact hP
  replace hS : va_S A s.heap H locs := by rw [hH, hlo]; exact hS
  show W p l e ({ frames := 8, cells := 0, slots := 0, locals := 176 }) s m [.ref a0, .int p0].toArray below meth c s.heap [] 0 0 Q (F0 m 0 ls [])
  rw [← hlo]
  suffices hgo : W p l e ({ frames := 8, cells := 0, slots := 0, locals := 176 }) s m [.ref a0, .int p0].toArray below meth c H locs 0 0 Q (F0 m 0 ls []) by rw [hH] at hgo; exact hgo
  clear hH hlo
  have hi_X4 : ∀ w ∈ wsX40, w ∈ wsX4_hush := fun w h => List.mem_cons_of_mem _ (List.mem_append_right _ (h))
  have hk_9 := hts (.fieldLink RX4 9 "NestsOfTalkModel" "s" "[I") (List.mem_of_getElem? (i := 1) rfl)
  have hk_13 := hts (.fieldLink RX4 13 "NestsOfTalkModel" "m" "[I") (List.mem_of_getElem? (i := 2) rfl)
  have hI := hG.inv
  have hn9 := hI.le
  have hL96 := hG.L96
  have hM16 := hG.M16
  refine lv_iload_n hx hb dX4_hush_0 rfl (lv_at hl 1 rfl) ?_
  refine lv_iconst (v := 1) hx hb dX4_hush_1 (by decide) ?_
  refine lv_bipush (v := 60) hx hb dX4_hush_2 (by decide) ?_
  refine xc_Si (As := [.int p0, .int 1, .int 60]) (rest := []) ⟨hx, hb, hml, hown, hts⟩ (kX4_wrongBy l D cI p0 1 60) (va_cwS 3 hts gX4_hush_X4_wrongBy rfl rfl rfl hs_X4_wrongBy ⟨Nat.le_of_ble_eq_true rfl, Nat.le_of_ble_eq_true rfl⟩) hK hP [] rfl rfl hl.1 rfl (Nat.le_of_ble_eq_true rfl) dX4_hush_4 ⟨Nat.zero_le _, Nat.zero_le _⟩ (fun r_1 hr_1 => ?_)
  replace hr_1 : r_1 = wrB p0 1 60 := hr_1
  refine lv_istore_n (lv' := [(2, .int r_1), (0, .ref a0), (1, .int p0)]) hx hb dX4_hush_7 rfl hl (by decide) rfl (fun ls hl => ?_)
  refine lv_iload_n hx hb dX4_hush_8 rfl (lv_at hl 0 rfl) ?_
  refine lv_if_eq (tgt := 18) hx hb dX4_hush_9 (by decide) (fun c_2 => ?_) (fun c_2 => ?_)
  · skip
    have hv_2 : wrB p0 1 60 = 0 := hr_1.symm.trans c_2
    obtain ⟨v_2, vl_2, vu_2, ev_2⟩ := wrB_nat (a := 1) (b := 60) (rfl : (1 : Int32) = nI 1) (rfl : (60 : Int32) = nI 60) (by decide) (by decide) hv_2
    have tn_2 : tN p0 = v_2 := by rw [ev_2]; exact tN_nI (by omega)
    refine lv_aload_n hx hb dX4_hush_18 rfl (lv_at hl 1 rfl) ?_
    refine lv_iload_n hx hb dX4_hush_19 rfl (lv_at hl 2 rfl) ?_
    refine xw_Vi (As := [.int p0]) (rest := []) (Wn := fun u => [(a0, .inr (3, [.ref a1, .ref a2, .ref a3, .ref a4, .int gg.hs, .ref a5, .ref a6, .ref a7, .int (nI gg.L), .int (nI gg.M), .int mm.pl, .ref a8, .int mm.sd])), (a1, .inl (cI, 49, .inl gg.r)), (a2, .inl (cI, 49, .inl (dsR gg.r gg.n v_2))), (a3, .inl (cI, 49, .inl gg.im)), (a4, .inl (cI, 49, .inl mm.ws)), (a5, .inl (cI, 96, .inl gg.lt)), (a6, .inl (cI, 16, .inl gg.rw)), (a7, .inl (cI, 7, .inl gg.rf)), (a8, .inl (cI, 3, .inl mm.nb))]) (Wr := []) ⟨hx, hb, hml, hown, hts⟩ (kX4_takesOn l D cI H.size a0 a1 a2 a3 a4 a5 a6 a7 a8 gg mm hG p0 v_2 ev_2 (by omega)) (cwV 1 hts gX4_hush_X4_takesOn rfl rfl rfl hv_X4_takesOn ⟨Nat.le_of_ble_eq_true rfl, Nat.le_of_ble_eq_true rfl⟩) hK hP hD hS hA [0, 1, 2, 3, 4, 5, 6, 7, 8] [] [0, 1, 2, 3, 4, 5, 6, 7, 8] rfl rfl (by decide) (by decide) (by decide) (by decide) (fun u => rfl) 0 rfl rfl rfl hl.1 rfl (Nat.le_of_ble_eq_true rfl) dX4_hush_20 ⟨Nat.zero_le _, Nat.zero_le _⟩ (fun r_3 u_3 H locs hw_3 hP hD hS => ?_)
    have hI_3 : Inv gg.n (dsR gg.r gg.n v_2) := hI.idsR _
    refine lv_istore_n (lv' := [(3, .int r_3), (2, .int r_1), (0, .ref a0), (1, .int p0)]) hx hb dX4_hush_23 rfl hl (by decide) rfl (fun ls hl => ?_)
    refine lv_bipush (v := (-9)) hx hb dX4_hush_24 (by decide) ?_
    refine lv_istore (lv' := [(4, .int (-9)), (3, .int r_3), (2, .int r_1), (0, .ref a0), (1, .int p0)]) hx hb dX4_hush_26 hl (by decide) rfl (fun ls hl => ?_)
    refine lv_iconst (v := 0) hx hb dX4_hush_28 (by decide) ?_
    refine lv_istore (lv' := [(5, .int 0), (4, .int (-9)), (3, .int r_3), (2, .int r_1), (0, .ref a0), (1, .int p0)]) hx hb dX4_hush_29 hl (by decide) rfl (fun ls hl => ?_)
    have lp_31_4 : ∀ (fu : Nat) (j : Nat) (x5 : Int32) (x4 : Int32) (x3 : Int32) (f : RR) (ls : Array Slot) (H : Heap) (locs : List Loc), gg.n - j < fu → (x5 = nI j) → (j ≤ gg.n) → (x4 = (huF gg.r gg.n v_2 j).1) → (x3 = (huF gg.r gg.n v_2 j).2) → va_P D vwCl [(a0, .inr (3, [.ref a1, .ref a2, .ref a3, .ref a4, .int gg.hs, .ref a5, .ref a6, .ref a7, .int (nI gg.L), .int (nI gg.M), .int mm.pl, .ref a8, .int mm.sd])), (a1, .inl (cI, 49, .inl gg.r)), (a2, .inl (cI, 49, .inl f)), (a3, .inl (cI, 49, .inl gg.im)), (a4, .inl (cI, 49, .inl mm.ws)), (a5, .inl (cI, 96, .inl gg.lt)), (a6, .inl (cI, 16, .inl gg.rw)), (a7, .inl (cI, 7, .inl gg.rf)), (a8, .inl (cI, 3, .inl mm.nb))] H → va_D A [(a0, .inr (3, [.ref a1, .ref a2, .ref a3, .ref a4, .int gg.hs, .ref a5, .ref a6, .ref a7, .int (nI gg.L), .int (nI gg.M), .int mm.pl, .ref a8, .int mm.sd])), (a1, .inl (cI, 49, .inl gg.r)), (a2, .inl (cI, 49, .inl f)), (a3, .inl (cI, 49, .inl gg.im)), (a4, .inl (cI, 49, .inl mm.ws)), (a5, .inl (cI, 96, .inl gg.lt)), (a6, .inl (cI, 16, .inl gg.rw)), (a7, .inl (cI, 7, .inl gg.rf)), (a8, .inl (cI, 3, .inl mm.nb))] → va_S A s.heap H locs → lv_has ls 7 [(5, .int x5), (4, .int x4), (3, .int x3), (0, .ref a0), (1, .int p0)] → W p l e ({ frames := 8, cells := 0, slots := 0, locals := 176 }) s m [.ref a0, .int p0].toArray below meth c H locs 0 0 Q (F0 m 31 ls []) := by
      intro fu
      induction fu with
      | zero =>
        intro j x5 x4 x3 f ls H locs hfu
        exact absurd hfu (Nat.not_lt_zero _)
      | succ fu ih_4 =>
        intro j x5 x4 x3 f ls H locs hfu hx5 hi hx4 hx3 hP hD hS hl
        refine lv_iload hx hb dX4_hush_31 (lv_at hl 0 rfl) ?_
        refine lv_aload_n hx hb dX4_hush_33 rfl (lv_at hl 3 rfl) ?_
        refine va_get (D := D) (ci := 3) (v := .ref a1) (C := RX4) (T := TX4) (N := 13) hx hb hts hi_X4 hown hK.1 hP 0 rfl rfl 0 (by decide) hk_9 (fun _ h9 => h9) rfl dX4_hush_34 ?_
        refine lv_iconst (v := 0) hx hb dX4_hush_37 (by decide) ?_
        refine xa_ld hx hb hK hP 1 rfl (j := 0) (rfl : (0 : Int32) = nI 0) (by omega) (by decide) dX4_hush_38 ?_
        refine lv_icmp_ge (tgt := 110) hx hb dX4_hush_39 (by decide) (fun c_5 => ?_) (fun c_5 => ?_)
        · skip
          have n_5 : gg.n ≤ j := (ni_le (a := gg.n) (b := j) hI.n0 hx5 (by omega) (by omega)).mp c_5
          have d_5 : ¬ x5 < (gg.r 0) := Int32.not_lt.2 c_5
          have m_5 : ¬ j < gg.n := by omega
          refine lv_iload hx hb dX4_hush_110 (lv_at hl 1 rfl) ?_
          exact hret 112 _ x4 (gg, (f, mm.ws, mm.nb, mm.pl, mm.sd)) _ _ dX4_hush_112 (by have e9 : j = gg.n := (by omega); subst e9; simp [sp_hush, hx4, hv_2, tn_2]) hP hD hS
        have n_5 : ¬ gg.n ≤ j := fun q => c_5 ((ni_le (a := gg.n) (b := j) hI.n0 hx5 (by omega) (by omega)).mpr q)
        have d_5 : x5 < (gg.r 0) := Int32.not_le.1 c_5
        have m_5 : j < gg.n := by omega
        refine lv_aload_n hx hb dX4_hush_42 rfl (lv_at hl 3 rfl) ?_
        refine va_get (D := D) (ci := 3) (v := .ref a1) (C := RX4) (T := TX4) (N := 13) hx hb hts hi_X4 hown hK.1 hP 0 rfl rfl 0 (by decide) hk_9 (fun _ h9 => h9) rfl dX4_hush_43 ?_
        refine lv_aload_n hx hb dX4_hush_46 rfl (lv_at hl 3 rfl) ?_
        refine va_get (D := D) (ci := 3) (v := .ref a2) (C := RX4) (T := TX4) (N := 13) hx hb hts hi_X4 hown hK.1 hP 0 rfl rfl 1 (by decide) hk_13 (fun _ h9 => h9) rfl dX4_hush_47 ?_
        refine xw_Sv (As := [.ref a1, .ref a2]) (rest := []) (Wn := fun u => [(a0, .inr (3, [.ref a1, .ref a2, .ref a3, .ref a4, .int gg.hs, .ref a5, .ref a6, .ref a7, .int (nI gg.L), .int (nI gg.M), .int mm.pl, .ref a8, .int mm.sd])), (a1, .inl (cI, 49, .inl gg.r)), (a2, .inl (cI, 49, .inl gg.r)), (a3, .inl (cI, 49, .inl gg.im)), (a4, .inl (cI, 49, .inl mm.ws)), (a5, .inl (cI, 96, .inl gg.lt)), (a6, .inl (cI, 16, .inl gg.rw)), (a7, .inl (cI, 7, .inl gg.rf)), (a8, .inl (cI, 3, .inl mm.nb))]) (Wr := [(a0, .inr (3, [.ref a1, .ref a2, .ref a3, .ref a4, .int gg.hs, .ref a5, .ref a6, .ref a7, .int (nI gg.L), .int (nI gg.M), .int mm.pl, .ref a8, .int mm.sd])), (a3, .inl (cI, 49, .inl gg.im)), (a4, .inl (cI, 49, .inl mm.ws)), (a5, .inl (cI, 96, .inl gg.lt)), (a6, .inl (cI, 16, .inl gg.rw)), (a7, .inl (cI, 7, .inl gg.rf)), (a8, .inl (cI, 3, .inl mm.nb))]) ⟨hx, hb, hml, hown, hts⟩ (kX4_copies l D cI H.size a1 a2 gg.r f) (va_cwS 2 hts gX4_hush_X4_copies rfl rfl rfl hs_X4_copies ⟨Nat.le_of_ble_eq_true rfl, Nat.le_of_ble_eq_true rfl⟩) hK hP hD hS hA [1, 2] [0, 3, 4, 5, 6, 7, 8] [0, 7, 8, 1, 2, 3, 4, 5, 6] rfl rfl (by decide) (by decide) (by decide) (by decide) (fun u => rfl) rfl hl.1 rfl (Nat.le_of_ble_eq_true rfl) dX4_hush_50 ⟨Nat.zero_le _, Nat.zero_le _⟩ (fun u_6 H locs hw_6 hP hD hS => ?_)
        refine lv_aload_n hx hb dX4_hush_53 rfl (lv_at hl 3 rfl) ?_
        refine va_get (D := D) (ci := 3) (v := .ref a2) (C := RX4) (T := TX4) (N := 13) hx hb hts hi_X4 hown hK.1 hP 0 rfl rfl 1 (by decide) hk_13 (fun _ h9 => h9) rfl dX4_hush_54 ?_
        refine lv_iload hx hb dX4_hush_57 (lv_at hl 0 rfl) ?_
        refine lv_iconst (v := 2) hx hb dX4_hush_59 (by decide) ?_
        refine xc_Si (As := [.int x5, .int 2]) (rest := [.ref a2]) ⟨hx, hb, hml, hown, hts⟩ (kX4_of l D cI x5 2 j 2 hx5 (rfl : (2 : Int32) = nI 2)) (va_cwS 2 hts gX4_hush_X4_of rfl rfl rfl hs_X4_of ⟨Nat.le_of_ble_eq_true rfl, Nat.le_of_ble_eq_true rfl⟩) hK hP [] rfl rfl hl.1 rfl (Nat.le_of_ble_eq_true rfl) dX4_hush_60 ⟨Nat.zero_le _, Nat.zero_le _⟩ (fun r_7 hr_7 => ?_)
        refine lv_bipush (v := (-9)) hx hb dX4_hush_63 (by decide) ?_
        refine xa_st hx hb hK hP hD hS 2 rfl (j := (oF j 2)) hr_7 (by unfold oF; omega) (by decide) dX4_hush_65 (fun H locs hP hD hS => ?_)
        obtain ⟨f_8, ef_8⟩ : ∃ z : Nat → Int32, z = upd gg.r (oF j 2) (-9) := ⟨_, rfl⟩
        replace hP : va_P D vwCl [(a0, .inr (3, [.ref a1, .ref a2, .ref a3, .ref a4, .int gg.hs, .ref a5, .ref a6, .ref a7, .int (nI gg.L), .int (nI gg.M), .int mm.pl, .ref a8, .int mm.sd])), (a1, .inl (cI, 49, .inl gg.r)), (a2, .inl (cI, 49, .inl (upd gg.r (oF j 2) (-9)))), (a3, .inl (cI, 49, .inl gg.im)), (a4, .inl (cI, 49, .inl mm.ws)), (a5, .inl (cI, 96, .inl gg.lt)), (a6, .inl (cI, 16, .inl gg.rw)), (a7, .inl (cI, 7, .inl gg.rf)), (a8, .inl (cI, 3, .inl mm.nb))] H := hP
        replace hD : va_D A [(a0, .inr (3, [.ref a1, .ref a2, .ref a3, .ref a4, .int gg.hs, .ref a5, .ref a6, .ref a7, .int (nI gg.L), .int (nI gg.M), .int mm.pl, .ref a8, .int mm.sd])), (a1, .inl (cI, 49, .inl gg.r)), (a2, .inl (cI, 49, .inl (upd gg.r (oF j 2) (-9)))), (a3, .inl (cI, 49, .inl gg.im)), (a4, .inl (cI, 49, .inl mm.ws)), (a5, .inl (cI, 96, .inl gg.lt)), (a6, .inl (cI, 16, .inl gg.rw)), (a7, .inl (cI, 7, .inl gg.rf)), (a8, .inl (cI, 3, .inl mm.nb))] := hD
        rw [← ef_8] at hP hD
        refine lv_aload_n hx hb dX4_hush_66 rfl (lv_at hl 3 rfl) ?_
        refine va_get (D := D) (ci := 3) (v := .ref a2) (C := RX4) (T := TX4) (N := 13) hx hb hts hi_X4 hown hK.1 hP 0 rfl rfl 1 (by decide) hk_13 (fun _ h9 => h9) rfl dX4_hush_67 ?_
        refine lv_iload hx hb dX4_hush_70 (lv_at hl 0 rfl) ?_
        refine lv_iconst (v := 4) hx hb dX4_hush_72 (by decide) ?_
        refine xc_Si (As := [.int x5, .int 4]) (rest := [.ref a2]) ⟨hx, hb, hml, hown, hts⟩ (kX4_of l D cI x5 4 j 4 hx5 (rfl : (4 : Int32) = nI 4)) (va_cwS 2 hts gX4_hush_X4_of rfl rfl rfl hs_X4_of ⟨Nat.le_of_ble_eq_true rfl, Nat.le_of_ble_eq_true rfl⟩) hK hP [] rfl rfl hl.1 rfl (Nat.le_of_ble_eq_true rfl) dX4_hush_73 ⟨Nat.zero_le _, Nat.zero_le _⟩ (fun r_9 hr_9 => ?_)
        refine lv_iconst (v := 0) hx hb dX4_hush_76 (by decide) ?_
        refine xa_st hx hb hK hP hD hS 2 rfl (j := (oF j 4)) hr_9 (by unfold oF; omega) (by decide) dX4_hush_77 (fun H locs hP hD hS => ?_)
        obtain ⟨f_10, ef_10⟩ : ∃ z : Nat → Int32, z = upd f_8 (oF j 4) 0 := ⟨_, rfl⟩
        replace hP : va_P D vwCl [(a0, .inr (3, [.ref a1, .ref a2, .ref a3, .ref a4, .int gg.hs, .ref a5, .ref a6, .ref a7, .int (nI gg.L), .int (nI gg.M), .int mm.pl, .ref a8, .int mm.sd])), (a1, .inl (cI, 49, .inl gg.r)), (a2, .inl (cI, 49, .inl (upd f_8 (oF j 4) 0))), (a3, .inl (cI, 49, .inl gg.im)), (a4, .inl (cI, 49, .inl mm.ws)), (a5, .inl (cI, 96, .inl gg.lt)), (a6, .inl (cI, 16, .inl gg.rw)), (a7, .inl (cI, 7, .inl gg.rf)), (a8, .inl (cI, 3, .inl mm.nb))] H := hP
        replace hD : va_D A [(a0, .inr (3, [.ref a1, .ref a2, .ref a3, .ref a4, .int gg.hs, .ref a5, .ref a6, .ref a7, .int (nI gg.L), .int (nI gg.M), .int mm.pl, .ref a8, .int mm.sd])), (a1, .inl (cI, 49, .inl gg.r)), (a2, .inl (cI, 49, .inl (upd f_8 (oF j 4) 0))), (a3, .inl (cI, 49, .inl gg.im)), (a4, .inl (cI, 49, .inl mm.ws)), (a5, .inl (cI, 96, .inl gg.lt)), (a6, .inl (cI, 16, .inl gg.rw)), (a7, .inl (cI, 7, .inl gg.rf)), (a8, .inl (cI, 3, .inl mm.nb))] := hD
        rw [← ef_10] at hP hD
        refine lv_aload_n hx hb dX4_hush_78 rfl (lv_at hl 3 rfl) ?_
        refine va_get (D := D) (ci := 3) (v := .ref a2) (C := RX4) (T := TX4) (N := 13) hx hb hts hi_X4 hown hK.1 hP 0 rfl rfl 1 (by decide) hk_13 (fun _ h9 => h9) rfl dX4_hush_79 ?_
        have eh_10 : f_10 = setAb gg.r j (-9) := by rw [ef_10, ef_8]; rfl
        have hI_h9 : Inv gg.n f_10 := (by rw [eh_10]; exact hI.isetAb _ okv_2n)
        refine lv_iload_n hx hb dX4_hush_82 rfl (lv_at hl 4 rfl) ?_
        refine xw_Si (As := [.ref a2, .int p0]) (rest := []) (Wn := fun u => [(a0, .inr (3, [.ref a1, .ref a2, .ref a3, .ref a4, .int gg.hs, .ref a5, .ref a6, .ref a7, .int (nI gg.L), .int (nI gg.M), .int mm.pl, .ref a8, .int mm.sd])), (a1, .inl (cI, 49, .inl gg.r)), (a2, .inl (cI, 49, .inl u)), (a3, .inl (cI, 49, .inl gg.im)), (a4, .inl (cI, 49, .inl mm.ws)), (a5, .inl (cI, 96, .inl gg.lt)), (a6, .inl (cI, 16, .inl gg.rw)), (a7, .inl (cI, 7, .inl gg.rf)), (a8, .inl (cI, 3, .inl mm.nb))]) (Wr := [(a0, .inr (3, [.ref a1, .ref a2, .ref a3, .ref a4, .int gg.hs, .ref a5, .ref a6, .ref a7, .int (nI gg.L), .int (nI gg.M), .int mm.pl, .ref a8, .int mm.sd])), (a1, .inl (cI, 49, .inl gg.r)), (a3, .inl (cI, 49, .inl gg.im)), (a4, .inl (cI, 49, .inl mm.ws)), (a5, .inl (cI, 96, .inl gg.lt)), (a6, .inl (cI, 16, .inl gg.rw)), (a7, .inl (cI, 7, .inl gg.rf)), (a8, .inl (cI, 3, .inl mm.nb))]) ⟨hx, hb, hml, hown, hts⟩ (kX4_daysOn l D cI H.size a2 f_10 gg.n hI_h9 p0 v_2 ev_2 (by omega)) (va_cwS 2 hts gX4_hush_X4_daysOn rfl rfl rfl hs_X4_daysOn ⟨Nat.le_of_ble_eq_true rfl, Nat.le_of_ble_eq_true rfl⟩) hK hP hD hS hA [2] [0, 1, 3, 4, 5, 6, 7, 8] [0, 1, 8, 2, 3, 4, 5, 6, 7] rfl rfl (by decide) (by decide) (by decide) (by decide) (fun u => rfl) rfl hl.1 rfl (Nat.le_of_ble_eq_true rfl) dX4_hush_83 ⟨Nat.zero_le _, Nat.zero_le _⟩ (fun r_11 u_11 H locs hw_11 hP hD hS => ?_)
        obtain ⟨hr_11, hu_11⟩ := hw_11
        have hI_u_11 : Inv gg.n u_11 := (by rw [hu_11]; exact hI_h9.idsR _)
        refine lv_istore (lv' := [(6, .int r_11), (5, .int x5), (4, .int x4), (3, .int x3), (0, .ref a0), (1, .int p0)]) hx hb dX4_hush_86 hl (by decide) rfl (fun ls hl => ?_)
        refine lv_iload hx hb dX4_hush_88 (lv_at hl 0 rfl) ?_
        refine lv_iload_n hx hb dX4_hush_90 rfl (lv_at hl 3 rfl) ?_
        refine lv_icmp_lt (tgt := 97) hx hb dX4_hush_91 (by decide) (fun c_12 => ?_) (fun c_12 => ?_)
        · skip
          have d_12 : ¬ x3 ≤ r_11 := Int32.not_le.2 c_12
          refine lv_iload hx hb dX4_hush_97 (lv_at hl 1 rfl) ?_
          refine lv_istore (lv' := [(4, .int x5), (6, .int r_11), (5, .int x5), (3, .int x3), (0, .ref a0), (1, .int p0)]) hx hb dX4_hush_99 hl (by decide) rfl (fun ls hl => ?_)
          refine lv_iload hx hb dX4_hush_101 (lv_at hl 1 rfl) ?_
          refine lv_istore_n (lv' := [(3, .int r_11), (4, .int x5), (6, .int r_11), (5, .int x5), (0, .ref a0), (1, .int p0)]) hx hb dX4_hush_103 rfl hl (by decide) rfl (fun ls hl => ?_)
          obtain ⟨x_13, ex_13⟩ : ∃ z : Int32, z = x5 + 1 := ⟨_, rfl⟩
          refine lv_iinc (v := x_13) (lv' := [(5, .int x_13), (3, .int r_11), (4, .int x5), (6, .int r_11), (0, .ref a0), (1, .int p0)]) hx hb dX4_hush_104 hl (k := 3) rfl (by rw [ex_13]; rfl) (by decide) rfl (fun ls hl => ?_)
          refine lv_goto (tgt := 31) hx hb dX4_hush_107 (by decide) ?_
          exact ih_4 (j + 1) x_13 x5 r_11 u_11 _ _ _ (by omega) (ni_add (a := j) (b := 1) ex_13 hx5 (rfl : (1 : Int32) = nI 1)) (by omega) (by rw [huF]; simp only [← hx5, ← hx4, ← hx3]; first | (simp only [not_true_eq_false, not_false_eq_true, false_and, and_false, true_and, and_true, or_true, true_or, or_false, false_or, if_true, if_false, Bool.false_eq_true, Bool.true_eq_false, reduceCtorEq, and_self, or_self, ← hx5, ← hx4, ← hx3, ← hr_1, ← hw_3, ← hr_7, ← hr_9, ← eh_10, ← hu_11, ← hr_11, ← ex_13, c_2, c_5, c_12, n_5, d_5, m_5, d_12]; done) | (simp only [not_true_eq_false, not_false_eq_true, false_and, and_false, true_and, and_true, or_true, true_or, or_false, false_or, if_true, if_false, Bool.false_eq_true, Bool.true_eq_false, reduceCtorEq, and_self, or_self, ← hx5, ← hx4, ← hx3, ← hr_1, ← hw_3, ← hr_7, ← hr_9, ← eh_10, ← hu_11, ← hr_11, ← ex_13, c_2, c_5, c_12, n_5, d_5, m_5, d_12]; simp only [hr_1, hw_3, hr_7, hr_9, eh_10, hu_11, hr_11, ex_13]; done) | (simp [← hx5, ← hx4, ← hx3, ← hr_1, ← hw_3, ← hr_7, ← hr_9, ← eh_10, ← hu_11, ← hr_11, ← ex_13, c_2, c_5, c_12, n_5, d_5, m_5, d_12]; done)) (by rw [huF]; simp only [← hx5, ← hx4, ← hx3]; first | (simp only [not_true_eq_false, not_false_eq_true, false_and, and_false, true_and, and_true, or_true, true_or, or_false, false_or, if_true, if_false, Bool.false_eq_true, Bool.true_eq_false, reduceCtorEq, and_self, or_self, ← hx5, ← hx4, ← hx3, ← hr_1, ← hw_3, ← hr_7, ← hr_9, ← eh_10, ← hu_11, ← hr_11, ← ex_13, c_2, c_5, c_12, n_5, d_5, m_5, d_12]; done) | (simp only [not_true_eq_false, not_false_eq_true, false_and, and_false, true_and, and_true, or_true, true_or, or_false, false_or, if_true, if_false, Bool.false_eq_true, Bool.true_eq_false, reduceCtorEq, and_self, or_self, ← hx5, ← hx4, ← hx3, ← hr_1, ← hw_3, ← hr_7, ← hr_9, ← eh_10, ← hu_11, ← hr_11, ← ex_13, c_2, c_5, c_12, n_5, d_5, m_5, d_12]; simp only [hr_1, hw_3, hr_7, hr_9, eh_10, hu_11, hr_11, ex_13]; done) | (simp [← hx5, ← hx4, ← hx3, ← hr_1, ← hw_3, ← hr_7, ← hr_9, ← eh_10, ← hu_11, ← hr_11, ← ex_13, c_2, c_5, c_12, n_5, d_5, m_5, d_12]; done)) hP hD hS (lv_sub hl [0, 2, 1, 4, 5] rfl)
        have d_12 : x3 ≤ r_11 := Int32.not_lt.1 c_12
        refine lv_goto (tgt := 104) hx hb dX4_hush_94 (by decide) ?_
        obtain ⟨x_14, ex_14⟩ : ∃ z : Int32, z = x5 + 1 := ⟨_, rfl⟩
        refine lv_iinc (v := x_14) (lv' := [(5, .int x_14), (6, .int r_11), (4, .int x4), (3, .int x3), (0, .ref a0), (1, .int p0)]) hx hb dX4_hush_104 hl (k := 1) rfl (by rw [ex_14]; rfl) (by decide) rfl (fun ls hl => ?_)
        refine lv_goto (tgt := 31) hx hb dX4_hush_107 (by decide) ?_
        exact ih_4 (j + 1) x_14 x4 x3 u_11 _ _ _ (by omega) (ni_add (a := j) (b := 1) ex_14 hx5 (rfl : (1 : Int32) = nI 1)) (by omega) (by rw [huF]; simp only [← hx5, ← hx4, ← hx3]; first | (simp only [not_true_eq_false, not_false_eq_true, false_and, and_false, true_and, and_true, or_true, true_or, or_false, false_or, if_true, if_false, Bool.false_eq_true, Bool.true_eq_false, reduceCtorEq, and_self, or_self, ← hx5, ← hx4, ← hx3, ← hr_1, ← hw_3, ← hr_7, ← hr_9, ← eh_10, ← hu_11, ← hr_11, ← ex_14, c_2, c_5, c_12, n_5, d_5, m_5, d_12]; done) | (simp only [not_true_eq_false, not_false_eq_true, false_and, and_false, true_and, and_true, or_true, true_or, or_false, false_or, if_true, if_false, Bool.false_eq_true, Bool.true_eq_false, reduceCtorEq, and_self, or_self, ← hx5, ← hx4, ← hx3, ← hr_1, ← hw_3, ← hr_7, ← hr_9, ← eh_10, ← hu_11, ← hr_11, ← ex_14, c_2, c_5, c_12, n_5, d_5, m_5, d_12]; simp only [hr_1, hw_3, hr_7, hr_9, eh_10, hu_11, hr_11, ex_14]; done) | (simp [← hx5, ← hx4, ← hx3, ← hr_1, ← hw_3, ← hr_7, ← hr_9, ← eh_10, ← hu_11, ← hr_11, ← ex_14, c_2, c_5, c_12, n_5, d_5, m_5, d_12]; done)) (by rw [huF]; simp only [← hx5, ← hx4, ← hx3]; first | (simp only [not_true_eq_false, not_false_eq_true, false_and, and_false, true_and, and_true, or_true, true_or, or_false, false_or, if_true, if_false, Bool.false_eq_true, Bool.true_eq_false, reduceCtorEq, and_self, or_self, ← hx5, ← hx4, ← hx3, ← hr_1, ← hw_3, ← hr_7, ← hr_9, ← eh_10, ← hu_11, ← hr_11, ← ex_14, c_2, c_5, c_12, n_5, d_5, m_5, d_12]; done) | (simp only [not_true_eq_false, not_false_eq_true, false_and, and_false, true_and, and_true, or_true, true_or, or_false, false_or, if_true, if_false, Bool.false_eq_true, Bool.true_eq_false, reduceCtorEq, and_self, or_self, ← hx5, ← hx4, ← hx3, ← hr_1, ← hw_3, ← hr_7, ← hr_9, ← eh_10, ← hu_11, ← hr_11, ← ex_14, c_2, c_5, c_12, n_5, d_5, m_5, d_12]; simp only [hr_1, hw_3, hr_7, hr_9, eh_10, hu_11, hr_11, ex_14]; done) | (simp [← hx5, ← hx4, ← hx3, ← hr_1, ← hw_3, ← hr_7, ← hr_9, ← eh_10, ← hu_11, ← hr_11, ← ex_14, c_2, c_5, c_12, n_5, d_5, m_5, d_12]; done)) hP hD hS (lv_sub hl [0, 2, 3, 4, 5] rfl)
    exact lp_31_4 ((gg.n - 0) + 1) 0 0 (-9) r_3 (dsR gg.r gg.n v_2) _ _ _ (by omega) (rfl : (0 : Int32) = nI 0) (by omega) rfl hw_3 hP hD hS (lv_sub hl [0, 1, 2, 4, 5] rfl)
  have hv_2 : ¬ wrB p0 1 60 = 0 := fun q => c_2 (hr_1.trans q)
  refine lv_aload_n hx hb dX4_hush_12 rfl (lv_at hl 1 rfl) ?_
  refine lv_iload_n hx hb dX4_hush_13 rfl (lv_at hl 0 rfl) ?_
  refine xw_Vi (As := [.int r_1]) (rest := []) (Wn := fun u => [(a0, .inr (3, [.ref a1, .ref a2, .ref a3, .ref a4, .int gg.hs, .ref a5, .ref a6, .ref a7, .int (nI gg.L), .int (nI gg.M), .int mm.pl, .ref a8, .int mm.sd])), (a1, .inl (cI, 49, .inl gg.r)), (a2, .inl (cI, 49, .inl mm.m)), (a3, .inl (cI, 49, .inl gg.im)), (a4, .inl (cI, 49, .inl mm.ws)), (a5, .inl (cI, 96, .inl gg.lt)), (a6, .inl (cI, 16, .inl gg.rw)), (a7, .inl (cI, 7, .inl (upd gg.rf (cN r_1) (gg.rf (cN r_1) + 1)))), (a8, .inl (cI, 3, .inl mm.nb))]) (Wr := [(a1, .inl (cI, 49, .inl gg.r)), (a2, .inl (cI, 49, .inl mm.m)), (a3, .inl (cI, 49, .inl gg.im)), (a4, .inl (cI, 49, .inl mm.ws)), (a5, .inl (cI, 96, .inl gg.lt)), (a6, .inl (cI, 16, .inl gg.rw)), (a8, .inl (cI, 3, .inl mm.nb))]) ⟨hx, hb, hml, hown, hts⟩ (kX4_no l D cI H.size a0 a1 a2 a3 a4 a5 a6 a7 a8 gg mm r_1 (okc_of hr_1 c_2)) (cwV 1 hts gX4_hush_X4_no rfl rfl rfl hv_X4_no ⟨Nat.le_of_ble_eq_true rfl, Nat.le_of_ble_eq_true rfl⟩) hK hP hD hS hA [0, 7] [1, 2, 3, 4, 5, 6, 8] [7, 0, 1, 2, 3, 4, 5, 8, 6] rfl rfl (by decide) (by decide) (by decide) (by decide) (fun u => rfl) 0 rfl rfl rfl hl.1 rfl (Nat.le_of_ble_eq_true rfl) dX4_hush_14 ⟨Nat.zero_le _, Nat.zero_le _⟩ (fun r_15 u_15 H locs hw_15 hP hD hS => ?_)
  exact hret 17 _ r_15 ((gg.n, gg.r, gg.m, gg.im, gg.hs, gg.lt, gg.L, gg.rw, gg.M, (upd gg.rf (cN r_1) (gg.rf (cN r_1) + 1))), mm) _ _ dX4_hush_17 (by first | (simp [sp_hush, rfz, us, c_2, hv_2, hw_15, hr_1]; done) | (simp [sp_hush, rfz, us, c_2, hv_2, hw_15, hr_1, isI]; done) | (simp [sp_hush, rfz, us, c_2, hv_2, hw_15, hr_1, wrB, lackF]; done)) hP hD hS

set_option maxHeartbeats 4000000 in
set_option maxRecDepth 100000 in
theorem kX4_add (l : Launch) (D : va_G) (cI : ClassId) (sz : Nat) (a0 a1 a2 a3 a4 a5 a6 a7 a8 : Nat) (gg : GG) (mm : MS) (hG : Good gg) (p0 p1 p2 : Int32) : Met l yX4_add wsX4_add ({ frames := 7, cells := 0, slots := 0, locals := 155 }) (PRW D cI [.ref a0, .int p0, .int p1, .int p2] [(a0, .inr (3, [.ref a1, .ref a2, .ref a3, .ref a4, .int gg.hs, .ref a5, .ref a6, .ref a7, .int (nI gg.L), .int (nI gg.M), .int mm.pl, .ref a8, .int mm.sd])), (a1, .inl (cI, 49, .inl gg.r)), (a2, .inl (cI, 49, .inl mm.m)), (a3, .inl (cI, 49, .inl gg.im)), (a4, .inl (cI, 49, .inl mm.ws)), (a5, .inl (cI, 96, .inl gg.lt)), (a6, .inl (cI, 16, .inl gg.rw)), (a7, .inl (cI, 7, .inl gg.rf)), (a8, .inl (cI, 3, .inl mm.nb))] sz) (va_Qi (S := GG × MS) (fun v u => (v, u.1) = sp_add gg p0 p1 p2) (BRW D [(a0, .inr (3, [.ref a1, .ref a2, .ref a3, .ref a4, .int gg.hs, .ref a5, .ref a6, .ref a7, .int (nI gg.L), .int (nI gg.M), .int mm.pl, .ref a8, .int mm.sd])), (a1, .inl (cI, 49, .inl gg.r)), (a2, .inl (cI, 49, .inl mm.m)), (a3, .inl (cI, 49, .inl gg.im)), (a4, .inl (cI, 49, .inl mm.ws)), (a5, .inl (cI, 96, .inl gg.lt)), (a6, .inl (cI, 16, .inl gg.rw)), (a7, .inl (cI, 7, .inl gg.rf)), (a8, .inl (cI, 3, .inl mm.nb))] sz (fun u => [(a0, .inr (3, [.ref a1, .ref a2, .ref a3, .ref a4, .int u.1.hs, .ref a5, .ref a6, .ref a7, .int (nI u.1.L), .int (nI u.1.M), .int u.2.pl, .ref a8, .int u.2.sd])), (a1, .inl (cI, 49, .inl u.1.r)), (a2, .inl (cI, 49, .inl u.2.m)), (a3, .inl (cI, 49, .inl u.1.im)), (a4, .inl (cI, 49, .inl u.2.ws)), (a5, .inl (cI, 96, .inl u.1.lt)), (a6, .inl (cI, 16, .inl u.1.rw)), (a7, .inl (cI, 7, .inl u.1.rf)), (a8, .inl (cI, 3, .inl u.2.nb))])) (va_A [(a0, .inr (3, [.ref a1, .ref a2, .ref a3, .ref a4, .int gg.hs, .ref a5, .ref a6, .ref a7, .int (nI gg.L), .int (nI gg.M), .int mm.pl, .ref a8, .int mm.sd])), (a1, .inl (cI, 49, .inl gg.r)), (a2, .inl (cI, 49, .inl mm.m)), (a3, .inl (cI, 49, .inl gg.im)), (a4, .inl (cI, 49, .inl mm.ws)), (a5, .inl (cI, 96, .inl gg.lt)), (a6, .inl (cI, 16, .inl gg.rw)), (a7, .inl (cI, 7, .inl gg.rf)), (a8, .inl (cI, 3, .inl mm.nb))] sz)) 0 0 (va_A [(a0, .inr (3, [.ref a1, .ref a2, .ref a3, .ref a4, .int gg.hs, .ref a5, .ref a6, .ref a7, .int (nI gg.L), .int (nI gg.M), .int mm.pl, .ref a8, .int mm.sd])), (a1, .inl (cI, 49, .inl gg.r)), (a2, .inl (cI, 49, .inl mm.m)), (a3, .inl (cI, 49, .inl gg.im)), (a4, .inl (cI, 49, .inl mm.ws)), (a5, .inl (cI, 96, .inl gg.lt)), (a6, .inl (cI, 16, .inl gg.rw)), (a7, .inl (cI, 7, .inl gg.rf)), (a8, .inl (cI, 3, .inl mm.nb))] sz) := by
  refine st_rwi (cc := cX4_add) (maxL := 10) (rt := .int) (by decide) rfl (Nat.le_of_ble_eq_true rfl) (fun _ _ _ => rfl) ?_
  intro p e s m below meth c Q ls A hx hb hml hts hown hP hK hD hA hS hl hret
  replace hown : s.vm.findClass RX4 = some m.cls := hown
  replace hl : lv_has ls 10 [(0, .ref a0), (1, .int p0), (2, .int p1), (3, .int p2)] := hl
  obtain ⟨H, hH⟩ : ∃ z, z = s.heap := ⟨_, rfl⟩
  obtain ⟨locs, hlo⟩ : ∃ z : List Loc, z = [] := ⟨_, rfl⟩
  replace hP : va_P D vwCl [(a0, .inr (3, [.ref a1, .ref a2, .ref a3, .ref a4, .int gg.hs, .ref a5, .ref a6, .ref a7, .int (nI gg.L), .int (nI gg.M), .int mm.pl, .ref a8, .int mm.sd])), (a1, .inl (cI, 49, .inl gg.r)), (a2, .inl (cI, 49, .inl mm.m)), (a3, .inl (cI, 49, .inl gg.im)), (a4, .inl (cI, 49, .inl mm.ws)), (a5, .inl (cI, 96, .inl gg.lt)), (a6, .inl (cI, 16, .inl gg.rw)), (a7, .inl (cI, 7, .inl gg.rf)), (a8, .inl (cI, 3, .inl mm.nb))] H := by rw [hH]; exact hP
  replace hS : va_S A s.heap H locs := by rw [hH, hlo]; exact hS
  show W p l e ({ frames := 7, cells := 0, slots := 0, locals := 155 }) s m [.ref a0, .int p0, .int p1, .int p2].toArray below meth c s.heap [] 0 0 Q (F0 m 0 ls [])
  rw [← hlo]
  suffices hgo : W p l e ({ frames := 7, cells := 0, slots := 0, locals := 155 }) s m [.ref a0, .int p0, .int p1, .int p2].toArray below meth c H locs 0 0 Q (F0 m 0 ls []) by rw [hH] at hgo; exact hgo
  clear hH hlo
  have hi_X4 : ∀ w ∈ wsX40, w ∈ wsX4_add := fun w h => List.mem_cons_of_mem _ (List.mem_append_right _ (h))
  have hk_9 := hts (.fieldLink RX4 9 "NestsOfTalkModel" "s" "[I") (List.mem_of_getElem? (i := 1) rfl)
  have hk_13 := hts (.fieldLink RX4 13 "NestsOfTalkModel" "m" "[I") (List.mem_of_getElem? (i := 2) rfl)
  have hI := hG.inv
  have hn9 := hI.le
  have hL96 := hG.L96
  have hM16 := hG.M16
  refine lv_iload_n hx hb dX4_add_0 rfl (lv_at hl 1 rfl) ?_
  refine xc_Si (As := [.int p0]) (rest := []) ⟨hx, hb, hml, hown, hts⟩ (kX4_isWoman l D cI p0) (va_cwS 1 hts gX4_add_X4_isWoman rfl rfl rfl hs_X4_isWoman ⟨Nat.le_of_ble_eq_true rfl, Nat.le_of_ble_eq_true rfl⟩) hK hP [] rfl rfl hl.1 rfl (Nat.le_of_ble_eq_true rfl) dX4_add_1 ⟨Nat.zero_le _, Nat.zero_le _⟩ (fun r_1 hr_1 => ?_)
  refine lv_if_eq (tgt := 17) hx hb dX4_add_4 (by decide) (fun c_2 => ?_) (fun c_2 => ?_)
  · skip
    have hb_2 : womB p0 = false := bool_f hr_1 c_2
    refine lv_iconst (v := (-1)) hx hb dX4_add_17 (by decide) ?_
    refine lv_istore (lv' := [(4, .int (-1)), (0, .ref a0), (1, .int p0), (2, .int p1), (3, .int p2)]) hx hb dX4_add_18 hl (by decide) rfl (fun ls hl => ?_)
    refine lv_iload hx hb dX4_add_20 (lv_at hl 0 rfl) ?_
    refine lv_if_ne (tgt := 38) hx hb dX4_add_22 (by decide) (fun c_3 => ?_) (fun c_3 => ?_)
    · skip
      refine lv_iload hx hb dX4_add_38 (lv_at hl 0 rfl) ?_
      refine lv_if_eq (tgt := 50) hx hb dX4_add_40 (by decide) (fun c_4 => ?_) (fun c_4 => ?_)
      · skip
        exact absurd c_4 (by decide)
      refine lv_aload_n hx hb dX4_add_43 rfl (lv_at hl 1 rfl) ?_
      refine lv_iload hx hb dX4_add_44 (lv_at hl 0 rfl) ?_
      refine xw_Vi (As := [.int (-1)]) (rest := []) (Wn := fun u => [(a0, .inr (3, [.ref a1, .ref a2, .ref a3, .ref a4, .int gg.hs, .ref a5, .ref a6, .ref a7, .int (nI gg.L), .int (nI gg.M), .int mm.pl, .ref a8, .int mm.sd])), (a1, .inl (cI, 49, .inl gg.r)), (a2, .inl (cI, 49, .inl mm.m)), (a3, .inl (cI, 49, .inl gg.im)), (a4, .inl (cI, 49, .inl mm.ws)), (a5, .inl (cI, 96, .inl gg.lt)), (a6, .inl (cI, 16, .inl gg.rw)), (a7, .inl (cI, 7, .inl (upd gg.rf (cN (-1)) (gg.rf (cN (-1)) + 1)))), (a8, .inl (cI, 3, .inl mm.nb))]) (Wr := [(a1, .inl (cI, 49, .inl gg.r)), (a2, .inl (cI, 49, .inl mm.m)), (a3, .inl (cI, 49, .inl gg.im)), (a4, .inl (cI, 49, .inl mm.ws)), (a5, .inl (cI, 96, .inl gg.lt)), (a6, .inl (cI, 16, .inl gg.rw)), (a8, .inl (cI, 3, .inl mm.nb))]) ⟨hx, hb, hml, hown, hts⟩ (kX4_no l D cI H.size a0 a1 a2 a3 a4 a5 a6 a7 a8 gg mm (-1) okc_1) (cwV 1 hts gX4_add_X4_no rfl rfl rfl hv_X4_no ⟨Nat.le_of_ble_eq_true rfl, Nat.le_of_ble_eq_true rfl⟩) hK hP hD hS hA [0, 7] [1, 2, 3, 4, 5, 6, 8] [7, 0, 1, 2, 3, 4, 5, 8, 6] rfl rfl (by decide) (by decide) (by decide) (by decide) (fun u => rfl) 0 rfl rfl rfl hl.1 rfl (Nat.le_of_ble_eq_true rfl) dX4_add_46 ⟨Nat.zero_le _, Nat.zero_le _⟩ (fun r_5 u_5 H locs hw_5 hP hD hS => ?_)
      exact hret 49 _ r_5 ((gg.n, gg.r, gg.m, gg.im, gg.hs, gg.lt, gg.L, gg.rw, gg.M, (upd gg.rf (cN (-1)) (gg.rf (cN (-1)) + 1))), mm) _ _ dX4_add_49 (by first | (simp [sp_add, rfz, us, c_2, hb_2, hw_5]; done) | (simp [sp_add, rfz, us, c_2, hb_2, hw_5, isI]; done) | (simp [sp_add, rfz, us, c_2, hb_2, hw_5, wrB, lackF]; done)) hP hD hS
    exact absurd c_3 (by decide)
  have hb_2 : womB p0 = true := bool_t hr_1 c_2
  obtain ⟨w_2, hw_2, ew_2⟩ := womB_iff.1 hb_2
  refine lv_iload_n hx hb dX4_add_7 rfl (lv_at hl 2 rfl) ?_
  refine lv_iconst (v := 0) hx hb dX4_add_8 (by decide) ?_
  refine lv_bipush (v := 60) hx hb dX4_add_9 (by decide) ?_
  refine xc_Si (As := [.int p1, .int 0, .int 60]) (rest := []) ⟨hx, hb, hml, hown, hts⟩ (kX4_wrongBy l D cI p1 0 60) (va_cwS 3 hts gX4_add_X4_wrongBy rfl rfl rfl hs_X4_wrongBy ⟨Nat.le_of_ble_eq_true rfl, Nat.le_of_ble_eq_true rfl⟩) hK hP [] rfl rfl hl.1 rfl (Nat.le_of_ble_eq_true rfl) dX4_add_11 ⟨Nat.zero_le _, Nat.zero_le _⟩ (fun r_6 hr_6 => ?_)
  replace hr_6 : r_6 = wrB p1 0 60 := hr_6
  refine lv_goto (tgt := 18) hx hb dX4_add_14 (by decide) ?_
  refine lv_istore (lv' := [(4, .int r_6), (0, .ref a0), (1, .int p0), (2, .int p1), (3, .int p2)]) hx hb dX4_add_18 hl (by decide) rfl (fun ls hl => ?_)
  refine lv_iload hx hb dX4_add_20 (lv_at hl 0 rfl) ?_
  refine lv_if_ne (tgt := 38) hx hb dX4_add_22 (by decide) (fun c_7 => ?_) (fun c_7 => ?_)
  · skip
    have hv_7 : ¬ wrB p1 0 60 = 0 := fun q => c_7 (hr_6.trans q)
    refine lv_iload hx hb dX4_add_38 (lv_at hl 0 rfl) ?_
    refine lv_if_eq (tgt := 50) hx hb dX4_add_40 (by decide) (fun c_8 => ?_) (fun c_8 => ?_)
    · skip
      exact absurd c_8 c_7
    refine lv_aload_n hx hb dX4_add_43 rfl (lv_at hl 1 rfl) ?_
    refine lv_iload hx hb dX4_add_44 (lv_at hl 0 rfl) ?_
    refine xw_Vi (As := [.int r_6]) (rest := []) (Wn := fun u => [(a0, .inr (3, [.ref a1, .ref a2, .ref a3, .ref a4, .int gg.hs, .ref a5, .ref a6, .ref a7, .int (nI gg.L), .int (nI gg.M), .int mm.pl, .ref a8, .int mm.sd])), (a1, .inl (cI, 49, .inl gg.r)), (a2, .inl (cI, 49, .inl mm.m)), (a3, .inl (cI, 49, .inl gg.im)), (a4, .inl (cI, 49, .inl mm.ws)), (a5, .inl (cI, 96, .inl gg.lt)), (a6, .inl (cI, 16, .inl gg.rw)), (a7, .inl (cI, 7, .inl (upd gg.rf (cN r_6) (gg.rf (cN r_6) + 1)))), (a8, .inl (cI, 3, .inl mm.nb))]) (Wr := [(a1, .inl (cI, 49, .inl gg.r)), (a2, .inl (cI, 49, .inl mm.m)), (a3, .inl (cI, 49, .inl gg.im)), (a4, .inl (cI, 49, .inl mm.ws)), (a5, .inl (cI, 96, .inl gg.lt)), (a6, .inl (cI, 16, .inl gg.rw)), (a8, .inl (cI, 3, .inl mm.nb))]) ⟨hx, hb, hml, hown, hts⟩ (kX4_no l D cI H.size a0 a1 a2 a3 a4 a5 a6 a7 a8 gg mm r_6 (okc_of hr_6 c_7)) (cwV 1 hts gX4_add_X4_no rfl rfl rfl hv_X4_no ⟨Nat.le_of_ble_eq_true rfl, Nat.le_of_ble_eq_true rfl⟩) hK hP hD hS hA [0, 7] [1, 2, 3, 4, 5, 6, 8] [7, 0, 1, 2, 3, 4, 5, 8, 6] rfl rfl (by decide) (by decide) (by decide) (by decide) (fun u => rfl) 0 rfl rfl rfl hl.1 rfl (Nat.le_of_ble_eq_true rfl) dX4_add_46 ⟨Nat.zero_le _, Nat.zero_le _⟩ (fun r_9 u_9 H locs hw_9 hP hD hS => ?_)
    exact hret 49 _ r_9 ((gg.n, gg.r, gg.m, gg.im, gg.hs, gg.lt, gg.L, gg.rw, gg.M, (upd gg.rf (cN r_6) (gg.rf (cN r_6) + 1))), mm) _ _ dX4_add_49 (by first | (simp [sp_add, rfz, us, c_2, c_7, hb_2, hv_7, hw_9, hr_6]; done) | (simp [sp_add, rfz, us, c_2, c_7, hb_2, hv_7, hw_9, hr_6, isI]; done) | (simp [sp_add, rfz, us, c_2, c_7, hb_2, hv_7, hw_9, hr_6, wrB, lackF]; done)) hP hD hS
  have hv_7 : wrB p1 0 60 = 0 := hr_6.symm.trans c_7
  obtain ⟨v_7, vl_7, vu_7, ev_7⟩ := wrB_nat (a := 0) (b := 60) (rfl : (0 : Int32) = nI 0) (rfl : (60 : Int32) = nI 60) (by decide) (by decide) hv_7
  have tn_7 : tN p1 = v_7 := by rw [ev_7]; exact tN_nI (by omega)
  refine lv_iload_n hx hb dX4_add_25 rfl (lv_at hl 4 rfl) ?_
  refine lv_iconst (v := 0) hx hb dX4_add_26 (by decide) ?_
  refine lv_iconst (v := 1) hx hb dX4_add_27 (by decide) ?_
  refine xc_Si (As := [.int p2, .int 0, .int 1]) (rest := []) ⟨hx, hb, hml, hown, hts⟩ (kX4_isIn l D cI p2 0 1) (va_cwS 3 hts gX4_add_X4_isIn rfl rfl rfl hs_X4_isIn ⟨Nat.le_of_ble_eq_true rfl, Nat.le_of_ble_eq_true rfl⟩) hK hP [] rfl rfl hl.1 rfl (Nat.le_of_ble_eq_true rfl) dX4_add_28 ⟨Nat.zero_le _, Nat.zero_le _⟩ (fun r_10 hr_10 => ?_)
  refine lv_if_ne (tgt := 38) hx hb dX4_add_31 (by decide) (fun c_11 => ?_) (fun c_11 => ?_)
  · skip
    have hb_11 : isI p2 0 1 = true := bool_t (hr_10.trans isI_ite) c_11
    obtain ⟨i_11, il_11, iu_11, ei_11⟩ := isI_nat (a := 0) (b := 1) (rfl : (0 : Int32) = nI 0) (rfl : (1 : Int32) = nI 1) (by decide) (by omega) hb_11
    have tn_11 : tN p2 = i_11 := by rw [ei_11]; exact tN_nI (by omega)
    refine lv_iload hx hb dX4_add_38 (lv_at hl 0 rfl) ?_
    refine lv_if_eq (tgt := 50) hx hb dX4_add_40 (by decide) (fun c_12 => ?_) (fun c_12 => ?_)
    · skip
      refine lv_bipush (v := (-9)) hx hb dX4_add_50 (by decide) ?_
      refine lv_istore (lv' := [(5, .int (-9)), (4, .int r_6), (0, .ref a0), (1, .int p0), (2, .int p1), (3, .int p2)]) hx hb dX4_add_52 hl (by decide) rfl (fun ls hl => ?_)
      refine lv_iconst (v := (-1)) hx hb dX4_add_54 (by decide) ?_
      refine lv_istore (lv' := [(6, .int (-1)), (5, .int (-9)), (4, .int r_6), (0, .ref a0), (1, .int p0), (2, .int p1), (3, .int p2)]) hx hb dX4_add_55 hl (by decide) rfl (fun ls hl => ?_)
      refine lv_iconst (v := 0) hx hb dX4_add_57 (by decide) ?_
      refine lv_istore (lv' := [(7, .int 0), (6, .int (-1)), (5, .int (-9)), (4, .int r_6), (0, .ref a0), (1, .int p0), (2, .int p1), (3, .int p2)]) hx hb dX4_add_58 hl (by decide) rfl (fun ls hl => ?_)
      have lp_60_13 : ∀ (fu : Nat) (j : Nat) (x7 : Int32) (x6 : Int32) (x5 : Int32) (f : RR) (ls : Array Slot) (H : Heap) (locs : List Loc), 6 - j < fu → (x7 = nI j) → (j ≤ 6) → (x5 = (adF gg.r gg.n v_7 p0 j).1) → (x6 = (adF gg.r gg.n v_7 p0 j).2) → (j = 0 ∨ gg.n < 9) → va_P D vwCl [(a0, .inr (3, [.ref a1, .ref a2, .ref a3, .ref a4, .int gg.hs, .ref a5, .ref a6, .ref a7, .int (nI gg.L), .int (nI gg.M), .int mm.pl, .ref a8, .int mm.sd])), (a1, .inl (cI, 49, .inl gg.r)), (a2, .inl (cI, 49, .inl f)), (a3, .inl (cI, 49, .inl gg.im)), (a4, .inl (cI, 49, .inl mm.ws)), (a5, .inl (cI, 96, .inl gg.lt)), (a6, .inl (cI, 16, .inl gg.rw)), (a7, .inl (cI, 7, .inl gg.rf)), (a8, .inl (cI, 3, .inl mm.nb))] H → va_D A [(a0, .inr (3, [.ref a1, .ref a2, .ref a3, .ref a4, .int gg.hs, .ref a5, .ref a6, .ref a7, .int (nI gg.L), .int (nI gg.M), .int mm.pl, .ref a8, .int mm.sd])), (a1, .inl (cI, 49, .inl gg.r)), (a2, .inl (cI, 49, .inl f)), (a3, .inl (cI, 49, .inl gg.im)), (a4, .inl (cI, 49, .inl mm.ws)), (a5, .inl (cI, 96, .inl gg.lt)), (a6, .inl (cI, 16, .inl gg.rw)), (a7, .inl (cI, 7, .inl gg.rf)), (a8, .inl (cI, 3, .inl mm.nb))] → va_S A s.heap H locs → lv_has ls 10 [(7, .int x7), (6, .int x6), (5, .int x5), (0, .ref a0), (1, .int p0), (2, .int p1), (3, .int p2)] → W p l e ({ frames := 7, cells := 0, slots := 0, locals := 155 }) s m [.ref a0, .int p0, .int p1, .int p2].toArray below meth c H locs 0 0 Q (F0 m 60 ls []) := by
        intro fu
        induction fu with
        | zero =>
          intro j x7 x6 x5 f ls H locs hfu
          exact absurd hfu (Nat.not_lt_zero _)
        | succ fu ih_13 =>
          intro j x7 x6 x5 f ls H locs hfu hx7 hi hx5 hx6 hx99 hP hD hS hl
          refine lv_iload hx hb dX4_add_60 (lv_at hl 0 rfl) ?_
          refine lv_bipush (v := 6) hx hb dX4_add_62 (by decide) ?_
          refine lv_icmp_ge (tgt := 148) hx hb dX4_add_64 (by decide) (fun c_14 => ?_) (fun c_14 => ?_)
          · skip
            have n_14 : 6 ≤ j := (ni_le (a := 6) (b := j) (rfl : (6 : Int32) = nI 6) hx7 (by decide) (by omega)).mp c_14
            have d_14 : ¬ x7 < 6 := Int32.not_lt.2 c_14
            have m_14 : ¬ j < 6 := by omega
            refine lv_iload_n hx hb dX4_add_148 rfl (lv_at hl 6 rfl) ?_
            refine lv_if_ne (tgt := 157) hx hb dX4_add_149 (by decide) (fun c_15 => ?_) (fun c_15 => ?_)
            · skip
              have n_15 : ¬ i_11 = 0 := fun q => c_15 ((ni_eq (a := i_11) (b := 0) ei_11 (rfl : (0 : Int32) = nI 0) (by omega) (by decide)).mpr q)
              refine lv_iload hx hb dX4_add_157 (lv_at hl 1 rfl) ?_
              exact hret 159 _ x6 (gg, (f, mm.ws, mm.nb, mm.pl, mm.sd)) _ _ dX4_add_159 (by have e9 : j = 6 := (by omega); have e8 : ¬ gg.n = 9 := (by omega); subst e9; first | (simp [sp_add, e8, hx5, hx6, hb_2, hv_7, tn_7, hb_11, tn_11, c_15]; done) | (simp [sp_add, isI, e8, hx5, hx6, hb_2, hv_7, tn_7, hb_11, tn_11, c_15]; done)) hP hD hS
            have n_15 : i_11 = 0 := (ni_eq (a := i_11) (b := 0) ei_11 (rfl : (0 : Int32) = nI 0) (by omega) (by decide)).mp c_15
            refine lv_iload hx hb dX4_add_152 (lv_at hl 2 rfl) ?_
            refine lv_goto (tgt := 159) hx hb dX4_add_154 (by decide) ?_
            exact hret 159 _ x5 (gg, (f, mm.ws, mm.nb, mm.pl, mm.sd)) _ _ dX4_add_159 (by have e9 : j = 6 := (by omega); have e8 : ¬ gg.n = 9 := (by omega); subst e9; first | (simp [sp_add, e8, hx5, hx6, hb_2, hv_7, tn_7, hb_11, tn_11, c_15]; done) | (simp [sp_add, isI, e8, hx5, hx6, hb_2, hv_7, tn_7, hb_11, tn_11, c_15]; done)) hP hD hS
          have n_14 : ¬ 6 ≤ j := fun q => c_14 ((ni_le (a := 6) (b := j) (rfl : (6 : Int32) = nI 6) hx7 (by decide) (by omega)).mpr q)
          have d_14 : x7 < 6 := Int32.not_le.1 c_14
          have m_14 : j < 6 := by omega
          refine lv_aload_n hx hb dX4_add_67 rfl (lv_at hl 3 rfl) ?_
          refine va_get (D := D) (ci := 3) (v := .ref a1) (C := RX4) (T := TX4) (N := 13) hx hb hts hi_X4 hown hK.1 hP 0 rfl rfl 0 (by decide) hk_9 (fun _ h9 => h9) rfl dX4_add_68 ?_
          refine lv_aload_n hx hb dX4_add_71 rfl (lv_at hl 3 rfl) ?_
          refine va_get (D := D) (ci := 3) (v := .ref a2) (C := RX4) (T := TX4) (N := 13) hx hb hts hi_X4 hown hK.1 hP 0 rfl rfl 1 (by decide) hk_13 (fun _ h9 => h9) rfl dX4_add_72 ?_
          refine xw_Sv (As := [.ref a1, .ref a2]) (rest := []) (Wn := fun u => [(a0, .inr (3, [.ref a1, .ref a2, .ref a3, .ref a4, .int gg.hs, .ref a5, .ref a6, .ref a7, .int (nI gg.L), .int (nI gg.M), .int mm.pl, .ref a8, .int mm.sd])), (a1, .inl (cI, 49, .inl gg.r)), (a2, .inl (cI, 49, .inl gg.r)), (a3, .inl (cI, 49, .inl gg.im)), (a4, .inl (cI, 49, .inl mm.ws)), (a5, .inl (cI, 96, .inl gg.lt)), (a6, .inl (cI, 16, .inl gg.rw)), (a7, .inl (cI, 7, .inl gg.rf)), (a8, .inl (cI, 3, .inl mm.nb))]) (Wr := [(a0, .inr (3, [.ref a1, .ref a2, .ref a3, .ref a4, .int gg.hs, .ref a5, .ref a6, .ref a7, .int (nI gg.L), .int (nI gg.M), .int mm.pl, .ref a8, .int mm.sd])), (a3, .inl (cI, 49, .inl gg.im)), (a4, .inl (cI, 49, .inl mm.ws)), (a5, .inl (cI, 96, .inl gg.lt)), (a6, .inl (cI, 16, .inl gg.rw)), (a7, .inl (cI, 7, .inl gg.rf)), (a8, .inl (cI, 3, .inl mm.nb))]) ⟨hx, hb, hml, hown, hts⟩ (kX4_copies l D cI H.size a1 a2 gg.r f) (va_cwS 2 hts gX4_add_X4_copies rfl rfl rfl hs_X4_copies ⟨Nat.le_of_ble_eq_true rfl, Nat.le_of_ble_eq_true rfl⟩) hK hP hD hS hA [1, 2] [0, 3, 4, 5, 6, 7, 8] [0, 7, 8, 1, 2, 3, 4, 5, 6] rfl rfl (by decide) (by decide) (by decide) (by decide) (fun u => rfl) rfl hl.1 rfl (Nat.le_of_ble_eq_true rfl) dX4_add_75 ⟨Nat.zero_le _, Nat.zero_le _⟩ (fun u_16 H locs hw_16 hP hD hS => ?_)
          refine lv_aload_n hx hb dX4_add_78 rfl (lv_at hl 3 rfl) ?_
          refine va_get (D := D) (ci := 3) (v := .ref a2) (C := RX4) (T := TX4) (N := 13) hx hb hts hi_X4 hown hK.1 hP 0 rfl rfl 1 (by decide) hk_13 (fun _ h9 => h9) rfl dX4_add_79 ?_
          refine lv_iload hx hb dX4_add_82 (lv_at hl 0 rfl) ?_
          refine lv_bipush (v := 9) hx hb dX4_add_84 (by decide) ?_
          refine lv_iload_n hx hb dX4_add_86 rfl (lv_at hl 4 rfl) ?_
          refine xw_Si (As := [.ref a2, .int x7, .int 9, .int p0]) (rest := []) (Wn := fun u => [(a0, .inr (3, [.ref a1, .ref a2, .ref a3, .ref a4, .int gg.hs, .ref a5, .ref a6, .ref a7, .int (nI gg.L), .int (nI gg.M), .int mm.pl, .ref a8, .int mm.sd])), (a1, .inl (cI, 49, .inl gg.r)), (a2, .inl (cI, 49, .inl u)), (a3, .inl (cI, 49, .inl gg.im)), (a4, .inl (cI, 49, .inl mm.ws)), (a5, .inl (cI, 96, .inl gg.lt)), (a6, .inl (cI, 16, .inl gg.rw)), (a7, .inl (cI, 7, .inl gg.rf)), (a8, .inl (cI, 3, .inl mm.nb))]) (Wr := [(a0, .inr (3, [.ref a1, .ref a2, .ref a3, .ref a4, .int gg.hs, .ref a5, .ref a6, .ref a7, .int (nI gg.L), .int (nI gg.M), .int mm.pl, .ref a8, .int mm.sd])), (a1, .inl (cI, 49, .inl gg.r)), (a3, .inl (cI, 49, .inl gg.im)), (a4, .inl (cI, 49, .inl mm.ws)), (a5, .inl (cI, 96, .inl gg.lt)), (a6, .inl (cI, 16, .inl gg.rw)), (a7, .inl (cI, 7, .inl gg.rf)), (a8, .inl (cI, 3, .inl mm.nb))]) ⟨hx, hb, hml, hown, hts⟩ (kX4_adds l D cI H.size a2 gg.r gg.n hI x7 9 p0) (va_cwS 4 hts gX4_add_X4_adds rfl rfl rfl hs_X4_adds ⟨Nat.le_of_ble_eq_true rfl, Nat.le_of_ble_eq_true rfl⟩) hK hP hD hS hA [2] [0, 1, 3, 4, 5, 6, 7, 8] [0, 1, 8, 2, 3, 4, 5, 6, 7] rfl rfl (by decide) (by decide) (by decide) (by decide) (fun u => rfl) rfl hl.1 rfl (Nat.le_of_ble_eq_true rfl) dX4_add_87 ⟨Nat.zero_le _, Nat.zero_le _⟩ (fun r_17 u_17 H locs hw_17 hP hD hS => ?_)
          refine lv_if_ne (tgt := 96) hx hb dX4_add_90 (by decide) (fun c_18 => ?_) (fun c_18 => ?_)
          · skip
            obtain ⟨hl_17, hv9_17, hu_17⟩ : gg.n < 9 ∧ r_17 = 1 ∧ u_17 = addR gg.r gg.n x7 9 p0 := by
              rcases hw_17 with q | q
              · exact absurd q.2.1 c_18
              · exact q
            have hI_u_17 : Inv (gg.n + 1) u_17 := (by rw [hu_17, hx7]; exact hI.iaddN hl_17 (k := j) (f := 9) (by omega) (by omega) (okv_2 (k := w_2) (by omega) ew_2))
            refine lv_aload_n hx hb dX4_add_96 rfl (lv_at hl 3 rfl) ?_
            refine va_get (D := D) (ci := 3) (v := .ref a2) (C := RX4) (T := TX4) (N := 13) hx hb hts hi_X4 hown hK.1 hP 0 rfl rfl 1 (by decide) hk_13 (fun _ h9 => h9) rfl dX4_add_97 ?_
            refine lv_iload_n hx hb dX4_add_100 rfl (lv_at hl 5 rfl) ?_
            refine xw_Si (As := [.ref a2, .int p1]) (rest := []) (Wn := fun u => [(a0, .inr (3, [.ref a1, .ref a2, .ref a3, .ref a4, .int gg.hs, .ref a5, .ref a6, .ref a7, .int (nI gg.L), .int (nI gg.M), .int mm.pl, .ref a8, .int mm.sd])), (a1, .inl (cI, 49, .inl gg.r)), (a2, .inl (cI, 49, .inl u)), (a3, .inl (cI, 49, .inl gg.im)), (a4, .inl (cI, 49, .inl mm.ws)), (a5, .inl (cI, 96, .inl gg.lt)), (a6, .inl (cI, 16, .inl gg.rw)), (a7, .inl (cI, 7, .inl gg.rf)), (a8, .inl (cI, 3, .inl mm.nb))]) (Wr := [(a0, .inr (3, [.ref a1, .ref a2, .ref a3, .ref a4, .int gg.hs, .ref a5, .ref a6, .ref a7, .int (nI gg.L), .int (nI gg.M), .int mm.pl, .ref a8, .int mm.sd])), (a1, .inl (cI, 49, .inl gg.r)), (a3, .inl (cI, 49, .inl gg.im)), (a4, .inl (cI, 49, .inl mm.ws)), (a5, .inl (cI, 96, .inl gg.lt)), (a6, .inl (cI, 16, .inl gg.rw)), (a7, .inl (cI, 7, .inl gg.rf)), (a8, .inl (cI, 3, .inl mm.nb))]) ⟨hx, hb, hml, hown, hts⟩ (kX4_daysOn l D cI H.size a2 u_17 (gg.n + 1) hI_u_17 p1 v_7 ev_7 (by omega)) (va_cwS 2 hts gX4_add_X4_daysOn rfl rfl rfl hs_X4_daysOn ⟨Nat.le_of_ble_eq_true rfl, Nat.le_of_ble_eq_true rfl⟩) hK hP hD hS hA [2] [0, 1, 3, 4, 5, 6, 7, 8] [0, 1, 8, 2, 3, 4, 5, 6, 7] rfl rfl (by decide) (by decide) (by decide) (by decide) (fun u => rfl) rfl hl.1 rfl (Nat.le_of_ble_eq_true rfl) dX4_add_101 ⟨Nat.zero_le _, Nat.zero_le _⟩ (fun r_19 u_19 H locs hw_19 hP hD hS => ?_)
            obtain ⟨hr_19, hu_19⟩ := hw_19
            have hI_u_19 : Inv (gg.n + 1) u_19 := (by rw [hu_19]; exact hI_u_17.idsR _)
            refine lv_istore (lv' := [(8, .int r_19), (7, .int x7), (6, .int x6), (5, .int x5), (0, .ref a0), (1, .int p0), (2, .int p1), (3, .int p2)]) hx hb dX4_add_104 hl (by decide) rfl (fun ls hl => ?_)
            refine lv_aload_n hx hb dX4_add_106 rfl (lv_at hl 4 rfl) ?_
            refine va_get (D := D) (ci := 3) (v := .ref a2) (C := RX4) (T := TX4) (N := 13) hx hb hts hi_X4 hown hK.1 hP 0 rfl rfl 1 (by decide) hk_13 (fun _ h9 => h9) rfl dX4_add_107 ?_
            refine lv_aload_n hx hb dX4_add_110 rfl (lv_at hl 4 rfl) ?_
            refine va_get (D := D) (ci := 3) (v := .ref a2) (C := RX4) (T := TX4) (N := 13) hx hb hts hi_X4 hown hK.1 hP 0 rfl rfl 1 (by decide) hk_13 (fun _ h9 => h9) rfl dX4_add_111 ?_
            refine lv_iload_n hx hb dX4_add_114 rfl (lv_at hl 5 rfl) ?_
            refine xc_Si (As := [.ref a2, .int p0]) (rest := [.ref a2]) ⟨hx, hb, hml, hown, hts⟩ (kX4_nestIn l D cI a2 u_19 (gg.n + 1) hI_u_19 p0) (va_cwS 2 hts gX4_add_X4_nestIn rfl rfl rfl hs_X4_nestIn ⟨Nat.le_of_ble_eq_true rfl, Nat.le_of_ble_eq_true rfl⟩) hK hP [2] rfl rfl hl.1 rfl (Nat.le_of_ble_eq_true rfl) dX4_add_115 ⟨Nat.zero_le _, Nat.zero_le _⟩ (fun r_20 hr_20 => ?_)
            refine lv_iconst (v := 1) hx hb dX4_add_118 (by decide) ?_
            refine xc_Si (As := [.ref a2, .int r_20, .int 1]) (rest := []) ⟨hx, hb, hml, hown, hts⟩ (kX4_sumOf l D cI a2 u_19 (gg.n + 1) hI_u_19 r_20 1) (va_cwS 3 hts gX4_add_X4_sumOf rfl rfl rfl hs_X4_sumOf ⟨Nat.le_of_ble_eq_true rfl, Nat.le_of_ble_eq_true rfl⟩) hK hP [2] rfl rfl hl.1 rfl (Nat.le_of_ble_eq_true rfl) dX4_add_119 ⟨Nat.zero_le _, Nat.zero_le _⟩ (fun r_21 hr_21 => ?_)
            refine lv_istore (lv' := [(9, .int r_21), (8, .int r_19), (7, .int x7), (6, .int x6), (5, .int x5), (0, .ref a0), (1, .int p0), (2, .int p1), (3, .int p2)]) hx hb dX4_add_122 hl (by decide) rfl (fun ls hl => ?_)
            refine lv_iload hx hb dX4_add_124 (lv_at hl 0 rfl) ?_
            refine lv_iload hx hb dX4_add_126 (lv_at hl 3 rfl) ?_
            refine lv_icmp_gt (tgt := 134) hx hb dX4_add_128 (by decide) (fun c_22 => ?_) (fun c_22 => ?_)
            · skip
              have d_22 : ¬ r_21 ≤ x6 := Int32.not_le.2 c_22
              refine lv_iload hx hb dX4_add_134 (lv_at hl 2 rfl) ?_
              refine lv_istore (lv' := [(5, .int x7), (9, .int r_21), (8, .int r_19), (7, .int x7), (6, .int x6), (0, .ref a0), (1, .int p0), (2, .int p1), (3, .int p2)]) hx hb dX4_add_136 hl (by decide) rfl (fun ls hl => ?_)
              refine lv_iload hx hb dX4_add_138 (lv_at hl 1 rfl) ?_
              refine lv_istore (lv' := [(6, .int r_21), (5, .int x7), (9, .int r_21), (8, .int r_19), (7, .int x7), (0, .ref a0), (1, .int p0), (2, .int p1), (3, .int p2)]) hx hb dX4_add_140 hl (by decide) rfl (fun ls hl => ?_)
              obtain ⟨x_23, ex_23⟩ : ∃ z : Int32, z = x7 + 1 := ⟨_, rfl⟩
              refine lv_iinc (v := x_23) (lv' := [(7, .int x_23), (6, .int r_21), (5, .int x7), (9, .int r_21), (8, .int r_19), (0, .ref a0), (1, .int p0), (2, .int p1), (3, .int p2)]) hx hb dX4_add_142 hl (k := 4) rfl (by rw [ex_23]; rfl) (by decide) rfl (fun ls hl => ?_)
              refine lv_goto (tgt := 60) hx hb dX4_add_145 (by decide) ?_
              exact ih_13 (j + 1) x_23 r_21 x7 u_19 _ _ _ (by omega) (ni_add (a := j) (b := 1) ex_23 hx7 (rfl : (1 : Int32) = nI 1)) (by omega) (by rw [adF, adV]; simp only [← hx7, ← hx5, ← hx6]; first | (simp only [not_true_eq_false, not_false_eq_true, false_and, and_false, true_and, and_true, or_true, true_or, or_false, false_or, if_true, if_false, Bool.false_eq_true, Bool.true_eq_false, reduceCtorEq, and_self, or_self, ← hx7, ← hx5, ← hx6, ← hr_6, ← hu_17, ← hu_19, ← hr_19, ← hr_20, ← hr_21, ← ex_23, c_2, c_7, c_11, c_14, c_18, c_22, n_14, d_14, m_14, d_22]; done) | (simp only [not_true_eq_false, not_false_eq_true, false_and, and_false, true_and, and_true, or_true, true_or, or_false, false_or, if_true, if_false, Bool.false_eq_true, Bool.true_eq_false, reduceCtorEq, and_self, or_self, ← hx7, ← hx5, ← hx6, ← hr_6, ← hu_17, ← hu_19, ← hr_19, ← hr_20, ← hr_21, ← ex_23, c_2, c_7, c_11, c_14, c_18, c_22, n_14, d_14, m_14, d_22]; simp only [hr_6, hu_17, hu_19, hr_19, hr_20, hr_21, ex_23]; done) | (simp [← hx7, ← hx5, ← hx6, ← hr_6, ← hu_17, ← hu_19, ← hr_19, ← hr_20, ← hr_21, ← ex_23, c_2, c_7, c_11, c_14, c_18, c_22, n_14, d_14, m_14, d_22]; done)) (by rw [adF, adV]; simp only [← hx7, ← hx5, ← hx6]; first | (simp only [not_true_eq_false, not_false_eq_true, false_and, and_false, true_and, and_true, or_true, true_or, or_false, false_or, if_true, if_false, Bool.false_eq_true, Bool.true_eq_false, reduceCtorEq, and_self, or_self, ← hx7, ← hx5, ← hx6, ← hr_6, ← hu_17, ← hu_19, ← hr_19, ← hr_20, ← hr_21, ← ex_23, c_2, c_7, c_11, c_14, c_18, c_22, n_14, d_14, m_14, d_22]; done) | (simp only [not_true_eq_false, not_false_eq_true, false_and, and_false, true_and, and_true, or_true, true_or, or_false, false_or, if_true, if_false, Bool.false_eq_true, Bool.true_eq_false, reduceCtorEq, and_self, or_self, ← hx7, ← hx5, ← hx6, ← hr_6, ← hu_17, ← hu_19, ← hr_19, ← hr_20, ← hr_21, ← ex_23, c_2, c_7, c_11, c_14, c_18, c_22, n_14, d_14, m_14, d_22]; simp only [hr_6, hu_17, hu_19, hr_19, hr_20, hr_21, ex_23]; done) | (simp [← hx7, ← hx5, ← hx6, ← hr_6, ← hu_17, ← hu_19, ← hr_19, ← hr_20, ← hr_21, ← ex_23, c_2, c_7, c_11, c_14, c_18, c_22, n_14, d_14, m_14, d_22]; done)) (Or.inr hl_17) hP hD hS (lv_sub hl [0, 1, 2, 5, 6, 7, 8] rfl)
            have d_22 : r_21 ≤ x6 := Int32.not_lt.1 c_22
            refine lv_goto (tgt := 142) hx hb dX4_add_131 (by decide) ?_
            obtain ⟨x_24, ex_24⟩ : ∃ z : Int32, z = x7 + 1 := ⟨_, rfl⟩
            refine lv_iinc (v := x_24) (lv' := [(7, .int x_24), (9, .int r_21), (8, .int r_19), (6, .int x6), (5, .int x5), (0, .ref a0), (1, .int p0), (2, .int p1), (3, .int p2)]) hx hb dX4_add_142 hl (k := 2) rfl (by rw [ex_24]; rfl) (by decide) rfl (fun ls hl => ?_)
            refine lv_goto (tgt := 60) hx hb dX4_add_145 (by decide) ?_
            exact ih_13 (j + 1) x_24 x6 x5 u_19 _ _ _ (by omega) (ni_add (a := j) (b := 1) ex_24 hx7 (rfl : (1 : Int32) = nI 1)) (by omega) (by rw [adF, adV]; simp only [← hx7, ← hx5, ← hx6]; first | (simp only [not_true_eq_false, not_false_eq_true, false_and, and_false, true_and, and_true, or_true, true_or, or_false, false_or, if_true, if_false, Bool.false_eq_true, Bool.true_eq_false, reduceCtorEq, and_self, or_self, ← hx7, ← hx5, ← hx6, ← hr_6, ← hu_17, ← hu_19, ← hr_19, ← hr_20, ← hr_21, ← ex_24, c_2, c_7, c_11, c_14, c_18, c_22, n_14, d_14, m_14, d_22]; done) | (simp only [not_true_eq_false, not_false_eq_true, false_and, and_false, true_and, and_true, or_true, true_or, or_false, false_or, if_true, if_false, Bool.false_eq_true, Bool.true_eq_false, reduceCtorEq, and_self, or_self, ← hx7, ← hx5, ← hx6, ← hr_6, ← hu_17, ← hu_19, ← hr_19, ← hr_20, ← hr_21, ← ex_24, c_2, c_7, c_11, c_14, c_18, c_22, n_14, d_14, m_14, d_22]; simp only [hr_6, hu_17, hu_19, hr_19, hr_20, hr_21, ex_24]; done) | (simp [← hx7, ← hx5, ← hx6, ← hr_6, ← hu_17, ← hu_19, ← hr_19, ← hr_20, ← hr_21, ← ex_24, c_2, c_7, c_11, c_14, c_18, c_22, n_14, d_14, m_14, d_22]; done)) (by rw [adF, adV]; simp only [← hx7, ← hx5, ← hx6]; first | (simp only [not_true_eq_false, not_false_eq_true, false_and, and_false, true_and, and_true, or_true, true_or, or_false, false_or, if_true, if_false, Bool.false_eq_true, Bool.true_eq_false, reduceCtorEq, and_self, or_self, ← hx7, ← hx5, ← hx6, ← hr_6, ← hu_17, ← hu_19, ← hr_19, ← hr_20, ← hr_21, ← ex_24, c_2, c_7, c_11, c_14, c_18, c_22, n_14, d_14, m_14, d_22]; done) | (simp only [not_true_eq_false, not_false_eq_true, false_and, and_false, true_and, and_true, or_true, true_or, or_false, false_or, if_true, if_false, Bool.false_eq_true, Bool.true_eq_false, reduceCtorEq, and_self, or_self, ← hx7, ← hx5, ← hx6, ← hr_6, ← hu_17, ← hu_19, ← hr_19, ← hr_20, ← hr_21, ← ex_24, c_2, c_7, c_11, c_14, c_18, c_22, n_14, d_14, m_14, d_22]; simp only [hr_6, hu_17, hu_19, hr_19, hr_20, hr_21, ex_24]; done) | (simp [← hx7, ← hx5, ← hx6, ← hr_6, ← hu_17, ← hu_19, ← hr_19, ← hr_20, ← hr_21, ← ex_24, c_2, c_7, c_11, c_14, c_18, c_22, n_14, d_14, m_14, d_22]; done)) (Or.inr hl_17) hP hD hS (lv_sub hl [0, 3, 4, 5, 6, 7, 8] rfl)
          obtain ⟨hl_17, hu_17⟩ : gg.n = 9 ∧ u_17 = gg.r := by
            rcases hw_17 with q | q
            · exact ⟨q.1, q.2.2⟩
            · exact absurd (q.2.1.symm.trans c_18) (by decide)
          have hI_u_17 : Inv gg.n u_17 := (by rw [hu_17]; exact hI)
          refine lv_bipush (v := (-9)) hx hb dX4_add_93 (by decide) ?_
          exact hret 95 _ (-9) (gg, (u_17, mm.ws, mm.nb, mm.pl, mm.sd)) _ _ dX4_add_95 (by simp [sp_add, hb_2, hv_7, tn_7, hb_11, tn_11, hl_17]) hP hD hS
      exact lp_60_13 ((6 - 0) + 1) 0 0 (-1) (-9) mm.m _ _ _ (by omega) (rfl : (0 : Int32) = nI 0) (by omega) rfl rfl (Or.inl rfl) hP hD hS (lv_sub hl [0, 1, 2, 4, 5, 6, 7] rfl)
    exact absurd c_7 c_12
  have hb_11 : isI p2 0 1 = false := bool_f (hr_10.trans isI_ite) c_11
  refine lv_bipush (v := (-2)) hx hb dX4_add_34 (by decide) ?_
  refine lv_istore (lv' := [(4, .int (-2)), (0, .ref a0), (1, .int p0), (2, .int p1), (3, .int p2)]) hx hb dX4_add_36 hl (by decide) rfl (fun ls hl => ?_)
  refine lv_iload hx hb dX4_add_38 (lv_at hl 0 rfl) ?_
  refine lv_if_eq (tgt := 50) hx hb dX4_add_40 (by decide) (fun c_25 => ?_) (fun c_25 => ?_)
  · skip
    exact absurd c_25 (by decide)
  refine lv_aload_n hx hb dX4_add_43 rfl (lv_at hl 1 rfl) ?_
  refine lv_iload hx hb dX4_add_44 (lv_at hl 0 rfl) ?_
  refine xw_Vi (As := [.int (-2)]) (rest := []) (Wn := fun u => [(a0, .inr (3, [.ref a1, .ref a2, .ref a3, .ref a4, .int gg.hs, .ref a5, .ref a6, .ref a7, .int (nI gg.L), .int (nI gg.M), .int mm.pl, .ref a8, .int mm.sd])), (a1, .inl (cI, 49, .inl gg.r)), (a2, .inl (cI, 49, .inl mm.m)), (a3, .inl (cI, 49, .inl gg.im)), (a4, .inl (cI, 49, .inl mm.ws)), (a5, .inl (cI, 96, .inl gg.lt)), (a6, .inl (cI, 16, .inl gg.rw)), (a7, .inl (cI, 7, .inl (upd gg.rf (cN (-2)) (gg.rf (cN (-2)) + 1)))), (a8, .inl (cI, 3, .inl mm.nb))]) (Wr := [(a1, .inl (cI, 49, .inl gg.r)), (a2, .inl (cI, 49, .inl mm.m)), (a3, .inl (cI, 49, .inl gg.im)), (a4, .inl (cI, 49, .inl mm.ws)), (a5, .inl (cI, 96, .inl gg.lt)), (a6, .inl (cI, 16, .inl gg.rw)), (a8, .inl (cI, 3, .inl mm.nb))]) ⟨hx, hb, hml, hown, hts⟩ (kX4_no l D cI H.size a0 a1 a2 a3 a4 a5 a6 a7 a8 gg mm (-2) okc_2) (cwV 1 hts gX4_add_X4_no rfl rfl rfl hv_X4_no ⟨Nat.le_of_ble_eq_true rfl, Nat.le_of_ble_eq_true rfl⟩) hK hP hD hS hA [0, 7] [1, 2, 3, 4, 5, 6, 8] [7, 0, 1, 2, 3, 4, 5, 8, 6] rfl rfl (by decide) (by decide) (by decide) (by decide) (fun u => rfl) 0 rfl rfl rfl hl.1 rfl (Nat.le_of_ble_eq_true rfl) dX4_add_46 ⟨Nat.zero_le _, Nat.zero_le _⟩ (fun r_26 u_26 H locs hw_26 hP hD hS => ?_)
  exact hret 49 _ r_26 ((gg.n, gg.r, gg.m, gg.im, gg.hs, gg.lt, gg.L, gg.rw, gg.M, (upd gg.rf (cN (-2)) (gg.rf (cN (-2)) + 1))), mm) _ _ dX4_add_49 (by first | (simp [sp_add, rfz, us, c_2, c_7, c_11, hb_2, hv_7, tn_7, hb_11, hw_26, hr_6]; done) | (simp [sp_add, rfz, us, c_2, c_7, c_11, hb_2, hv_7, tn_7, hb_11, hw_26, hr_6, isI]; done) | (simp [sp_add, rfz, us, c_2, c_7, c_11, hb_2, hv_7, tn_7, hb_11, hw_26, hr_6, wrB, lackF]; done)) hP hD hS

set_option maxHeartbeats 4000000 in
set_option maxRecDepth 100000 in
theorem kX4_cushion (l : Launch) (D : va_G) (cI : ClassId) (sz : Nat) (a0 a1 a2 a3 a4 a5 a6 a7 a8 : Nat) (gg : GG) (mm : MS) (hG : Good gg) (p0 : Int32) : Met l yX4_cushion wsX4_cushion ({ frames := 6, cells := 0, slots := 0, locals := 132 }) (PRW D cI [.ref a0, .int p0] [(a0, .inr (3, [.ref a1, .ref a2, .ref a3, .ref a4, .int gg.hs, .ref a5, .ref a6, .ref a7, .int (nI gg.L), .int (nI gg.M), .int mm.pl, .ref a8, .int mm.sd])), (a1, .inl (cI, 49, .inl gg.r)), (a2, .inl (cI, 49, .inl mm.m)), (a3, .inl (cI, 49, .inl gg.im)), (a4, .inl (cI, 49, .inl mm.ws)), (a5, .inl (cI, 96, .inl gg.lt)), (a6, .inl (cI, 16, .inl gg.rw)), (a7, .inl (cI, 7, .inl gg.rf)), (a8, .inl (cI, 3, .inl mm.nb))] sz) (va_Qi (S := GG × MS) (fun v u => (v, u.1) = sp_cushion gg p0) (BRW D [(a0, .inr (3, [.ref a1, .ref a2, .ref a3, .ref a4, .int gg.hs, .ref a5, .ref a6, .ref a7, .int (nI gg.L), .int (nI gg.M), .int mm.pl, .ref a8, .int mm.sd])), (a1, .inl (cI, 49, .inl gg.r)), (a2, .inl (cI, 49, .inl mm.m)), (a3, .inl (cI, 49, .inl gg.im)), (a4, .inl (cI, 49, .inl mm.ws)), (a5, .inl (cI, 96, .inl gg.lt)), (a6, .inl (cI, 16, .inl gg.rw)), (a7, .inl (cI, 7, .inl gg.rf)), (a8, .inl (cI, 3, .inl mm.nb))] sz (fun u => [(a0, .inr (3, [.ref a1, .ref a2, .ref a3, .ref a4, .int u.1.hs, .ref a5, .ref a6, .ref a7, .int (nI u.1.L), .int (nI u.1.M), .int u.2.pl, .ref a8, .int u.2.sd])), (a1, .inl (cI, 49, .inl u.1.r)), (a2, .inl (cI, 49, .inl u.2.m)), (a3, .inl (cI, 49, .inl u.1.im)), (a4, .inl (cI, 49, .inl u.2.ws)), (a5, .inl (cI, 96, .inl u.1.lt)), (a6, .inl (cI, 16, .inl u.1.rw)), (a7, .inl (cI, 7, .inl u.1.rf)), (a8, .inl (cI, 3, .inl u.2.nb))])) (va_A [(a0, .inr (3, [.ref a1, .ref a2, .ref a3, .ref a4, .int gg.hs, .ref a5, .ref a6, .ref a7, .int (nI gg.L), .int (nI gg.M), .int mm.pl, .ref a8, .int mm.sd])), (a1, .inl (cI, 49, .inl gg.r)), (a2, .inl (cI, 49, .inl mm.m)), (a3, .inl (cI, 49, .inl gg.im)), (a4, .inl (cI, 49, .inl mm.ws)), (a5, .inl (cI, 96, .inl gg.lt)), (a6, .inl (cI, 16, .inl gg.rw)), (a7, .inl (cI, 7, .inl gg.rf)), (a8, .inl (cI, 3, .inl mm.nb))] sz)) 0 0 (va_A [(a0, .inr (3, [.ref a1, .ref a2, .ref a3, .ref a4, .int gg.hs, .ref a5, .ref a6, .ref a7, .int (nI gg.L), .int (nI gg.M), .int mm.pl, .ref a8, .int mm.sd])), (a1, .inl (cI, 49, .inl gg.r)), (a2, .inl (cI, 49, .inl mm.m)), (a3, .inl (cI, 49, .inl gg.im)), (a4, .inl (cI, 49, .inl mm.ws)), (a5, .inl (cI, 96, .inl gg.lt)), (a6, .inl (cI, 16, .inl gg.rw)), (a7, .inl (cI, 7, .inl gg.rf)), (a8, .inl (cI, 3, .inl mm.nb))] sz) := by
  refine st_rwi (cc := cX4_cushion) (maxL := 4) (rt := .int) (by decide) rfl (Nat.le_of_ble_eq_true rfl) (fun _ _ _ => rfl) ?_
  intro p e s m below meth c Q ls A hx hb hml hts hown hP hK hD hA hS hl hret
  replace hown : s.vm.findClass RX4 = some m.cls := hown
  replace hl : lv_has ls 4 [(0, .ref a0), (1, .int p0)] := hl
  obtain ⟨H, hH⟩ : ∃ z, z = s.heap := ⟨_, rfl⟩
  obtain ⟨locs, hlo⟩ : ∃ z : List Loc, z = [] := ⟨_, rfl⟩
  replace hP : va_P D vwCl [(a0, .inr (3, [.ref a1, .ref a2, .ref a3, .ref a4, .int gg.hs, .ref a5, .ref a6, .ref a7, .int (nI gg.L), .int (nI gg.M), .int mm.pl, .ref a8, .int mm.sd])), (a1, .inl (cI, 49, .inl gg.r)), (a2, .inl (cI, 49, .inl mm.m)), (a3, .inl (cI, 49, .inl gg.im)), (a4, .inl (cI, 49, .inl mm.ws)), (a5, .inl (cI, 96, .inl gg.lt)), (a6, .inl (cI, 16, .inl gg.rw)), (a7, .inl (cI, 7, .inl gg.rf)), (a8, .inl (cI, 3, .inl mm.nb))] H := by rw [hH]; exact hP
  replace hS : va_S A s.heap H locs := by rw [hH, hlo]; exact hS
  show W p l e ({ frames := 6, cells := 0, slots := 0, locals := 132 }) s m [.ref a0, .int p0].toArray below meth c s.heap [] 0 0 Q (F0 m 0 ls [])
  rw [← hlo]
  suffices hgo : W p l e ({ frames := 6, cells := 0, slots := 0, locals := 132 }) s m [.ref a0, .int p0].toArray below meth c H locs 0 0 Q (F0 m 0 ls []) by rw [hH] at hgo; exact hgo
  clear hH hlo
  have hi_X4 : ∀ w ∈ wsX40, w ∈ wsX4_cushion := fun w h => List.mem_cons_of_mem _ (List.mem_append_right _ (h))
  have hk_9 := hts (.fieldLink RX4 9 "NestsOfTalkModel" "s" "[I") (List.mem_of_getElem? (i := 1) rfl)
  have hk_13 := hts (.fieldLink RX4 13 "NestsOfTalkModel" "m" "[I") (List.mem_of_getElem? (i := 2) rfl)
  have hI := hG.inv
  have hn9 := hI.le
  have hL96 := hG.L96
  have hM16 := hG.M16
  refine lv_iload_n hx hb dX4_cushion_0 rfl (lv_at hl 1 rfl) ?_
  refine lv_iconst (v := 0) hx hb dX4_cushion_1 (by decide) ?_
  refine lv_iconst (v := 1) hx hb dX4_cushion_2 (by decide) ?_
  refine xc_Si (As := [.int p0, .int 0, .int 1]) (rest := []) ⟨hx, hb, hml, hown, hts⟩ (kX4_isIn l D cI p0 0 1) (va_cwS 3 hts gX4_cushion_X4_isIn rfl rfl rfl hs_X4_isIn ⟨Nat.le_of_ble_eq_true rfl, Nat.le_of_ble_eq_true rfl⟩) hK hP [] rfl rfl hl.1 rfl (Nat.le_of_ble_eq_true rfl) dX4_cushion_3 ⟨Nat.zero_le _, Nat.zero_le _⟩ (fun r_1 hr_1 => ?_)
  refine lv_if_ne (tgt := 16) hx hb dX4_cushion_6 (by decide) (fun c_2 => ?_) (fun c_2 => ?_)
  · skip
    have hb_2 : isI p0 0 1 = true := bool_t (hr_1.trans isI_ite) c_2
    obtain ⟨i_2, il_2, iu_2, ei_2⟩ := isI_nat (a := 0) (b := 1) (rfl : (0 : Int32) = nI 0) (rfl : (1 : Int32) = nI 1) (by decide) (by omega) hb_2
    have tn_2 : tN p0 = i_2 := by rw [ei_2]; exact tN_nI (by omega)
    refine lv_aload_n hx hb dX4_cushion_16 rfl (lv_at hl 0 rfl) ?_
    refine va_get (D := D) (ci := 3) (v := .ref a1) (C := RX4) (T := TX4) (N := 13) hx hb hts hi_X4 hown hK.1 hP 0 rfl rfl 0 (by decide) hk_9 (fun _ h9 => h9) rfl dX4_cushion_17 ?_
    refine lv_aload_n hx hb dX4_cushion_20 rfl (lv_at hl 0 rfl) ?_
    refine va_get (D := D) (ci := 3) (v := .ref a2) (C := RX4) (T := TX4) (N := 13) hx hb hts hi_X4 hown hK.1 hP 0 rfl rfl 1 (by decide) hk_13 (fun _ h9 => h9) rfl dX4_cushion_21 ?_
    refine xw_Sv (As := [.ref a1, .ref a2]) (rest := []) (Wn := fun u => [(a0, .inr (3, [.ref a1, .ref a2, .ref a3, .ref a4, .int gg.hs, .ref a5, .ref a6, .ref a7, .int (nI gg.L), .int (nI gg.M), .int mm.pl, .ref a8, .int mm.sd])), (a1, .inl (cI, 49, .inl gg.r)), (a2, .inl (cI, 49, .inl gg.r)), (a3, .inl (cI, 49, .inl gg.im)), (a4, .inl (cI, 49, .inl mm.ws)), (a5, .inl (cI, 96, .inl gg.lt)), (a6, .inl (cI, 16, .inl gg.rw)), (a7, .inl (cI, 7, .inl gg.rf)), (a8, .inl (cI, 3, .inl mm.nb))]) (Wr := [(a0, .inr (3, [.ref a1, .ref a2, .ref a3, .ref a4, .int gg.hs, .ref a5, .ref a6, .ref a7, .int (nI gg.L), .int (nI gg.M), .int mm.pl, .ref a8, .int mm.sd])), (a3, .inl (cI, 49, .inl gg.im)), (a4, .inl (cI, 49, .inl mm.ws)), (a5, .inl (cI, 96, .inl gg.lt)), (a6, .inl (cI, 16, .inl gg.rw)), (a7, .inl (cI, 7, .inl gg.rf)), (a8, .inl (cI, 3, .inl mm.nb))]) ⟨hx, hb, hml, hown, hts⟩ (kX4_copies l D cI H.size a1 a2 gg.r mm.m) (va_cwS 2 hts gX4_cushion_X4_copies rfl rfl rfl hs_X4_copies ⟨Nat.le_of_ble_eq_true rfl, Nat.le_of_ble_eq_true rfl⟩) hK hP hD hS hA [1, 2] [0, 3, 4, 5, 6, 7, 8] [0, 7, 8, 1, 2, 3, 4, 5, 6] rfl rfl (by decide) (by decide) (by decide) (by decide) (fun u => rfl) rfl hl.1 rfl (Nat.le_of_ble_eq_true rfl) dX4_cushion_24 ⟨Nat.zero_le _, Nat.zero_le _⟩ (fun u_3 H locs hw_3 hP hD hS => ?_)
    refine lv_iconst (v := 0) hx hb dX4_cushion_27 (by decide) ?_
    refine lv_istore_n (lv' := [(2, .int 0), (0, .ref a0), (1, .int p0)]) hx hb dX4_cushion_28 rfl hl (by decide) rfl (fun ls hl => ?_)
    have lp_29_4 : ∀ (fu : Nat) (i : Nat) (x2 : Int32) (f : RR) (ls : Array Slot) (H : Heap) (locs : List Loc), 61 - i < fu → (x2 = nI i) → (i ≤ 61) → (f = dsR gg.r gg.n i) → (∀ j, j < i → cuQ gg.r gg.n j = false) → va_P D vwCl [(a0, .inr (3, [.ref a1, .ref a2, .ref a3, .ref a4, .int gg.hs, .ref a5, .ref a6, .ref a7, .int (nI gg.L), .int (nI gg.M), .int mm.pl, .ref a8, .int mm.sd])), (a1, .inl (cI, 49, .inl gg.r)), (a2, .inl (cI, 49, .inl f)), (a3, .inl (cI, 49, .inl gg.im)), (a4, .inl (cI, 49, .inl mm.ws)), (a5, .inl (cI, 96, .inl gg.lt)), (a6, .inl (cI, 16, .inl gg.rw)), (a7, .inl (cI, 7, .inl gg.rf)), (a8, .inl (cI, 3, .inl mm.nb))] H → va_D A [(a0, .inr (3, [.ref a1, .ref a2, .ref a3, .ref a4, .int gg.hs, .ref a5, .ref a6, .ref a7, .int (nI gg.L), .int (nI gg.M), .int mm.pl, .ref a8, .int mm.sd])), (a1, .inl (cI, 49, .inl gg.r)), (a2, .inl (cI, 49, .inl f)), (a3, .inl (cI, 49, .inl gg.im)), (a4, .inl (cI, 49, .inl mm.ws)), (a5, .inl (cI, 96, .inl gg.lt)), (a6, .inl (cI, 16, .inl gg.rw)), (a7, .inl (cI, 7, .inl gg.rf)), (a8, .inl (cI, 3, .inl mm.nb))] → va_S A s.heap H locs → lv_has ls 4 [(2, .int x2), (0, .ref a0), (1, .int p0)] → W p l e ({ frames := 6, cells := 0, slots := 0, locals := 132 }) s m [.ref a0, .int p0].toArray below meth c H locs 0 0 Q (F0 m 29 ls []) := by
      intro fu
      induction fu with
      | zero =>
        intro i x2 f ls H locs hfu
        exact absurd hfu (Nat.not_lt_zero _)
      | succ fu ih_4 =>
        intro i x2 f ls H locs hfu hx2 hi hf hj hP hD hS hl
        have hI_f : Inv gg.n f := (by rw [hf]; exact hI.idsR _)
        refine lv_iload_n hx hb dX4_cushion_29 rfl (lv_at hl 0 rfl) ?_
        refine lv_bipush (v := 60) hx hb dX4_cushion_30 (by decide) ?_
        refine lv_icmp_gt (tgt := 93) hx hb dX4_cushion_32 (by decide) (fun c_5 => ?_) (fun c_5 => ?_)
        · skip
          have n_5 : 60 < i := (ni_lt (a := 60) (b := i) (rfl : (60 : Int32) = nI 60) hx2 (by decide) (by omega)).mp c_5
          have d_5 : ¬ x2 ≤ 60 := Int32.not_le.2 c_5
          have m_5 : ¬ i ≤ 60 := by omega
          refine lv_bipush (v := (-9)) hx hb dX4_cushion_93 (by decide) ?_
          exact hret 95 _ (-9) (gg, (f, mm.ws, mm.nb, mm.pl, mm.sd)) _ _ dX4_cushion_95 (by have e9 : i = 61 := (by omega); rw [e9] at hj; simp [sp_cushion, ff_none hj, hb_2, tn_2]) hP hD hS
        have n_5 : ¬ 60 < i := fun q => c_5 ((ni_lt (a := 60) (b := i) (rfl : (60 : Int32) = nI 60) hx2 (by decide) (by omega)).mpr q)
        have d_5 : x2 ≤ 60 := Int32.not_lt.1 c_5
        have m_5 : i ≤ 60 := by omega
        refine lv_iconst (v := 0) hx hb dX4_cushion_35 (by decide) ?_
        refine lv_istore_n (lv' := [(3, .int 0), (2, .int x2), (0, .ref a0), (1, .int p0)]) hx hb dX4_cushion_36 rfl hl (by decide) rfl (fun ls hl => ?_)
        have lp_37_6 : ∀ (fu : Nat) (w : Nat) (x3 : Int32) (ls : Array Slot) (H : Heap) (locs : List Loc), 4 - w < fu → (x3 = nI w) → (w ≤ 4) → (∀ j, j < w → cuP f gg.n j = false) → va_P D vwCl [(a0, .inr (3, [.ref a1, .ref a2, .ref a3, .ref a4, .int gg.hs, .ref a5, .ref a6, .ref a7, .int (nI gg.L), .int (nI gg.M), .int mm.pl, .ref a8, .int mm.sd])), (a1, .inl (cI, 49, .inl gg.r)), (a2, .inl (cI, 49, .inl f)), (a3, .inl (cI, 49, .inl gg.im)), (a4, .inl (cI, 49, .inl mm.ws)), (a5, .inl (cI, 96, .inl gg.lt)), (a6, .inl (cI, 16, .inl gg.rw)), (a7, .inl (cI, 7, .inl gg.rf)), (a8, .inl (cI, 3, .inl mm.nb))] H → va_D A [(a0, .inr (3, [.ref a1, .ref a2, .ref a3, .ref a4, .int gg.hs, .ref a5, .ref a6, .ref a7, .int (nI gg.L), .int (nI gg.M), .int mm.pl, .ref a8, .int mm.sd])), (a1, .inl (cI, 49, .inl gg.r)), (a2, .inl (cI, 49, .inl f)), (a3, .inl (cI, 49, .inl gg.im)), (a4, .inl (cI, 49, .inl mm.ws)), (a5, .inl (cI, 96, .inl gg.lt)), (a6, .inl (cI, 16, .inl gg.rw)), (a7, .inl (cI, 7, .inl gg.rf)), (a8, .inl (cI, 3, .inl mm.nb))] → va_S A s.heap H locs → lv_has ls 4 [(3, .int x3), (2, .int x2), (0, .ref a0), (1, .int p0)] → W p l e ({ frames := 6, cells := 0, slots := 0, locals := 132 }) s m [.ref a0, .int p0].toArray below meth c H locs 0 0 Q (F0 m 37 ls []) := by
          intro fu
          induction fu with
          | zero =>
            intro w x3 ls H locs hfu
            exact absurd hfu (Nat.not_lt_zero _)
          | succ fu ih_6 =>
            intro w x3 ls H locs hfu hx3 hw hjw hP hD hS hl
            refine lv_iload_n hx hb dX4_cushion_37 rfl (lv_at hl 0 rfl) ?_
            refine lv_iconst (v := 4) hx hb dX4_cushion_38 (by decide) ?_
            refine lv_icmp_ge (tgt := 79) hx hb dX4_cushion_39 (by decide) (fun c_7 => ?_) (fun c_7 => ?_)
            · skip
              have n_7 : 4 ≤ w := (ni_le (a := 4) (b := w) (rfl : (4 : Int32) = nI 4) hx3 (by decide) (by omega)).mp c_7
              have d_7 : ¬ x3 < 4 := Int32.not_lt.2 c_7
              have m_7 : ¬ w < 4 := by omega
              refine lv_aload_n hx hb dX4_cushion_79 rfl (lv_at hl 2 rfl) ?_
              refine va_get (D := D) (ci := 3) (v := .ref a2) (C := RX4) (T := TX4) (N := 13) hx hb hts hi_X4 hown hK.1 hP 0 rfl rfl 1 (by decide) hk_13 (fun _ h9 => h9) rfl dX4_cushion_80 ?_
              refine xw_Si (As := [.ref a2]) (rest := []) (Wn := fun u => [(a0, .inr (3, [.ref a1, .ref a2, .ref a3, .ref a4, .int gg.hs, .ref a5, .ref a6, .ref a7, .int (nI gg.L), .int (nI gg.M), .int mm.pl, .ref a8, .int mm.sd])), (a1, .inl (cI, 49, .inl gg.r)), (a2, .inl (cI, 49, .inl u)), (a3, .inl (cI, 49, .inl gg.im)), (a4, .inl (cI, 49, .inl mm.ws)), (a5, .inl (cI, 96, .inl gg.lt)), (a6, .inl (cI, 16, .inl gg.rw)), (a7, .inl (cI, 7, .inl gg.rf)), (a8, .inl (cI, 3, .inl mm.nb))]) (Wr := [(a0, .inr (3, [.ref a1, .ref a2, .ref a3, .ref a4, .int gg.hs, .ref a5, .ref a6, .ref a7, .int (nI gg.L), .int (nI gg.M), .int mm.pl, .ref a8, .int mm.sd])), (a1, .inl (cI, 49, .inl gg.r)), (a3, .inl (cI, 49, .inl gg.im)), (a4, .inl (cI, 49, .inl mm.ws)), (a5, .inl (cI, 96, .inl gg.lt)), (a6, .inl (cI, 16, .inl gg.rw)), (a7, .inl (cI, 7, .inl gg.rf)), (a8, .inl (cI, 3, .inl mm.nb))]) ⟨hx, hb, hml, hown, hts⟩ (kX4_day l D cI H.size a2 f gg.n hI_f) (va_cwS 1 hts gX4_cushion_X4_day rfl rfl rfl hs_X4_day ⟨Nat.le_of_ble_eq_true rfl, Nat.le_of_ble_eq_true rfl⟩) hK hP hD hS hA [2] [0, 1, 3, 4, 5, 6, 7, 8] [0, 1, 8, 2, 3, 4, 5, 6, 7] rfl rfl (by decide) (by decide) (by decide) (by decide) (fun u => rfl) rfl hl.1 rfl (Nat.le_of_ble_eq_true rfl) dX4_cushion_83 ⟨Nat.zero_le _, Nat.zero_le _⟩ (fun r_8 u_8 H locs hw_8 hP hD hS => ?_)
              obtain ⟨hr_8, hu_8⟩ := hw_8
              have hI_u_8 : Inv gg.n u_8 := (by rw [hu_8]; exact hI_f.idayR)
              refine lv_istore_n (lv' := [(3, .int r_8), (2, .int x2), (0, .ref a0), (1, .int p0)]) hx hb dX4_cushion_86 rfl hl (by decide) rfl (fun ls hl => ?_)
              obtain ⟨x_9, ex_9⟩ : ∃ z : Int32, z = x2 + 1 := ⟨_, rfl⟩
              refine lv_iinc (v := x_9) (lv' := [(2, .int x_9), (3, .int r_8), (0, .ref a0), (1, .int p0)]) hx hb dX4_cushion_87 hl (k := 1) rfl (by rw [ex_9]; rfl) (by decide) rfl (fun ls hl => ?_)
              refine lv_goto (tgt := 29) hx hb dX4_cushion_90 (by decide) ?_
              exact ih_4 (i + 1) x_9 u_8 _ _ _ (by omega) (ni_add (a := i) (b := 1) ex_9 hx2 (rfl : (1 : Int32) = nI 1)) (by omega) (by rw [dsR, ← hf]; exact hu_8) (lt_s hj (by have e4 : w = 4 := (by omega); rw [e4] at hjw; rw [cuQ, ← hf, ff_none hjw]; rfl)) hP hD hS (lv_sub hl [0, 2, 3] rfl)
            have n_7 : ¬ 4 ≤ w := fun q => c_7 ((ni_le (a := 4) (b := w) (rfl : (4 : Int32) = nI 4) hx3 (by decide) (by omega)).mpr q)
            have d_7 : x3 < 4 := Int32.not_le.1 c_7
            have m_7 : w < 4 := by omega
            refine lv_aload_n hx hb dX4_cushion_42 rfl (lv_at hl 2 rfl) ?_
            refine va_get (D := D) (ci := 3) (v := .ref a2) (C := RX4) (T := TX4) (N := 13) hx hb hts hi_X4 hown hK.1 hP 0 rfl rfl 1 (by decide) hk_13 (fun _ h9 => h9) rfl dX4_cushion_43 ?_
            refine lv_aload_n hx hb dX4_cushion_46 rfl (lv_at hl 2 rfl) ?_
            refine va_get (D := D) (ci := 3) (v := .ref a2) (C := RX4) (T := TX4) (N := 13) hx hb hts hi_X4 hown hK.1 hP 0 rfl rfl 1 (by decide) hk_13 (fun _ h9 => h9) rfl dX4_cushion_47 ?_
            refine lv_iload_n hx hb dX4_cushion_50 rfl (lv_at hl 0 rfl) ?_
            refine xc_Si (As := [.ref a2, .int x3]) (rest := [.ref a2]) ⟨hx, hb, hml, hown, hts⟩ (kX4_nestIn l D cI a2 f gg.n hI_f x3) (va_cwS 2 hts gX4_cushion_X4_nestIn rfl rfl rfl hs_X4_nestIn ⟨Nat.le_of_ble_eq_true rfl, Nat.le_of_ble_eq_true rfl⟩) hK hP [2] rfl rfl hl.1 rfl (Nat.le_of_ble_eq_true rfl) dX4_cushion_51 ⟨Nat.zero_le _, Nat.zero_le _⟩ (fun r_10 hr_10 => ?_)
            refine lv_iconst (v := 1) hx hb dX4_cushion_54 (by decide) ?_
            refine xc_Si (As := [.ref a2, .int r_10, .int 1]) (rest := []) ⟨hx, hb, hml, hown, hts⟩ (kX4_sumOf l D cI a2 f gg.n hI_f r_10 1) (va_cwS 3 hts gX4_cushion_X4_sumOf rfl rfl rfl hs_X4_sumOf ⟨Nat.le_of_ble_eq_true rfl, Nat.le_of_ble_eq_true rfl⟩) hK hP [2] rfl rfl hl.1 rfl (Nat.le_of_ble_eq_true rfl) dX4_cushion_55 ⟨Nat.zero_le _, Nat.zero_le _⟩ (fun r_11 hr_11 => ?_)
            refine lv_bipush (v := 20) hx hb dX4_cushion_58 (by decide) ?_
            refine lv_icmp_lt (tgt := 73) hx hb dX4_cushion_60 (by decide) (fun c_12 => ?_) (fun c_12 => ?_)
            · skip
              have d_12 : ¬ 20 ≤ r_11 := Int32.not_le.2 c_12
              obtain ⟨x_13, ex_13⟩ : ∃ z : Int32, z = x3 + 1 := ⟨_, rfl⟩
              refine lv_iinc (v := x_13) (lv' := [(3, .int x_13), (2, .int x2), (0, .ref a0), (1, .int p0)]) hx hb dX4_cushion_73 hl (k := 0) rfl (by rw [ex_13]; rfl) (by decide) rfl (fun ls hl => ?_)
              refine lv_goto (tgt := 37) hx hb dX4_cushion_76 (by decide) ?_
              exact ih_6 (w + 1) x_13 _ _ _ (by omega) (ni_add (a := w) (b := 1) ex_13 hx3 (rfl : (1 : Int32) = nI 1)) (by omega) (lt_s hjw (by rw [cuP, ← hx3, ← hr_10, ← hr_11]; simp only [decide_eq_false_iff_not]; exact d_12)) hP hD hS (lv_sub hl [0, 1, 2, 3] rfl)
            have d_12 : 20 ≤ r_11 := Int32.not_lt.1 c_12
            refine lv_iload_n hx hb dX4_cushion_63 rfl (lv_at hl 3 rfl) ?_
            refine lv_if_ne (tgt := 71) hx hb dX4_cushion_64 (by decide) (fun c_14 => ?_) (fun c_14 => ?_)
            · skip
              have n_14 : ¬ i_2 = 0 := fun q => c_14 ((ni_eq (a := i_2) (b := 0) ei_2 (rfl : (0 : Int32) = nI 0) (by omega) (by decide)).mpr q)
              refine lv_iload_n hx hb dX4_cushion_71 rfl (lv_at hl 0 rfl) ?_
              exact hret 72 _ x3 (gg, (f, mm.ws, mm.nb, mm.pl, mm.sd)) _ _ dX4_cushion_72 (by have e8 : ff (cuP f gg.n) 4 = w := ff_eq (by omega) (by rw [cuP, ← hx3, ← hr_10, ← hr_11]; simp only [decide_eq_true_eq]; exact d_12) hjw; have e9 : ff (cuQ gg.r gg.n) 61 = i := ff_eq (by omega) (by rw [cuQ, ← hf, e8]; simp only [decide_eq_true_eq]; omega) hj; have e7 : i < 61 := (by omega); first | (simp [sp_cushion, e9, ← hf, e8, e7, hx2, hx3, hb_2, tn_2, c_14]; done) | (simp [sp_cushion, isI, e9, ← hf, e8, e7, hx2, hx3, hb_2, tn_2, c_14]; done)) hP hD hS
            have n_14 : i_2 = 0 := (ni_eq (a := i_2) (b := 0) ei_2 (rfl : (0 : Int32) = nI 0) (by omega) (by decide)).mp c_14
            refine lv_iload_n hx hb dX4_cushion_67 rfl (lv_at hl 1 rfl) ?_
            refine lv_goto (tgt := 72) hx hb dX4_cushion_68 (by decide) ?_
            exact hret 72 _ x2 (gg, (f, mm.ws, mm.nb, mm.pl, mm.sd)) _ _ dX4_cushion_72 (by have e8 : ff (cuP f gg.n) 4 = w := ff_eq (by omega) (by rw [cuP, ← hx3, ← hr_10, ← hr_11]; simp only [decide_eq_true_eq]; exact d_12) hjw; have e9 : ff (cuQ gg.r gg.n) 61 = i := ff_eq (by omega) (by rw [cuQ, ← hf, e8]; simp only [decide_eq_true_eq]; omega) hj; have e7 : i < 61 := (by omega); first | (simp [sp_cushion, e9, ← hf, e8, e7, hx2, hx3, hb_2, tn_2, c_14]; done) | (simp [sp_cushion, isI, e9, ← hf, e8, e7, hx2, hx3, hb_2, tn_2, c_14]; done)) hP hD hS
        exact lp_37_6 ((4 - 0) + 1) 0 0 _ _ _ (by omega) (rfl : (0 : Int32) = nI 0) (by omega) (fun j hj => absurd hj (Nat.not_lt_zero _)) hP hD hS (lv_sub hl [0, 1, 2, 3] rfl)
    exact lp_29_4 ((61 - 0) + 1) 0 0 gg.r _ _ _ (by omega) (rfl : (0 : Int32) = nI 0) (by omega) rfl (fun j hj => absurd hj (Nat.not_lt_zero _)) hP hD hS (lv_sub hl [0, 1, 2] rfl)
  have hb_2 : isI p0 0 1 = false := bool_f (hr_1.trans isI_ite) c_2
  refine lv_aload_n hx hb dX4_cushion_9 rfl (lv_at hl 0 rfl) ?_
  refine lv_bipush (v := (-2)) hx hb dX4_cushion_10 (by decide) ?_
  refine xw_Vi (As := [.int (-2)]) (rest := []) (Wn := fun u => [(a0, .inr (3, [.ref a1, .ref a2, .ref a3, .ref a4, .int gg.hs, .ref a5, .ref a6, .ref a7, .int (nI gg.L), .int (nI gg.M), .int mm.pl, .ref a8, .int mm.sd])), (a1, .inl (cI, 49, .inl gg.r)), (a2, .inl (cI, 49, .inl mm.m)), (a3, .inl (cI, 49, .inl gg.im)), (a4, .inl (cI, 49, .inl mm.ws)), (a5, .inl (cI, 96, .inl gg.lt)), (a6, .inl (cI, 16, .inl gg.rw)), (a7, .inl (cI, 7, .inl (upd gg.rf (cN (-2)) (gg.rf (cN (-2)) + 1)))), (a8, .inl (cI, 3, .inl mm.nb))]) (Wr := [(a1, .inl (cI, 49, .inl gg.r)), (a2, .inl (cI, 49, .inl mm.m)), (a3, .inl (cI, 49, .inl gg.im)), (a4, .inl (cI, 49, .inl mm.ws)), (a5, .inl (cI, 96, .inl gg.lt)), (a6, .inl (cI, 16, .inl gg.rw)), (a8, .inl (cI, 3, .inl mm.nb))]) ⟨hx, hb, hml, hown, hts⟩ (kX4_no l D cI H.size a0 a1 a2 a3 a4 a5 a6 a7 a8 gg mm (-2) okc_2) (cwV 1 hts gX4_cushion_X4_no rfl rfl rfl hv_X4_no ⟨Nat.le_of_ble_eq_true rfl, Nat.le_of_ble_eq_true rfl⟩) hK hP hD hS hA [0, 7] [1, 2, 3, 4, 5, 6, 8] [7, 0, 1, 2, 3, 4, 5, 8, 6] rfl rfl (by decide) (by decide) (by decide) (by decide) (fun u => rfl) 0 rfl rfl rfl hl.1 rfl (Nat.le_of_ble_eq_true rfl) dX4_cushion_12 ⟨Nat.zero_le _, Nat.zero_le _⟩ (fun r_15 u_15 H locs hw_15 hP hD hS => ?_)
  exact hret 15 _ r_15 ((gg.n, gg.r, gg.m, gg.im, gg.hs, gg.lt, gg.L, gg.rw, gg.M, (upd gg.rf (cN (-2)) (gg.rf (cN (-2)) + 1))), mm) _ _ dX4_cushion_15 (by first | (simp [sp_cushion, rfz, us, c_2, hb_2, hw_15]; done) | (simp [sp_cushion, rfz, us, c_2, hb_2, hw_15, isI]; done) | (simp [sp_cushion, rfz, us, c_2, hb_2, hw_15, wrB, lackF]; done)) hP hD hS

set_option maxHeartbeats 4000000 in
set_option maxRecDepth 100000 in
theorem kX4_softerBy (l : Launch) (D : va_G) (cI : ClassId) (sz : Nat) (a0 a1 a2 a3 a4 a5 a6 a7 a8 : Nat) (gg : GG) (mm : MS) (hG : Good gg) (p0 p1 p2 p3 p4 p5 p6 : Int32) (wa wb t0 : Nat) (hwa : p2 = nI wa) (hwb : p4 = nI wb) (hwa4 : wa < 4) (hwb4 : wb < 4) (hp0 : p6 = nI t0) (ht0 : t0 ≤ 1000000) : Met l yX4_softerBy wsX4_softerBy ({ frames := 7, cells := 0, slots := 0, locals := 155 }) (PRW D cI [.ref a0, .int p0, .int p1, .int p2, .int p3, .int p4, .int p5, .int p6] [(a0, .inr (3, [.ref a1, .ref a2, .ref a3, .ref a4, .int gg.hs, .ref a5, .ref a6, .ref a7, .int (nI gg.L), .int (nI gg.M), .int mm.pl, .ref a8, .int mm.sd])), (a1, .inl (cI, 49, .inl gg.r)), (a2, .inl (cI, 49, .inl mm.m)), (a3, .inl (cI, 49, .inl gg.im)), (a4, .inl (cI, 49, .inl mm.ws)), (a5, .inl (cI, 96, .inl gg.lt)), (a6, .inl (cI, 16, .inl gg.rw)), (a7, .inl (cI, 7, .inl gg.rf)), (a8, .inl (cI, 3, .inl mm.nb))] sz) (va_Qi (S := RR) (fun v _ => v = sfV gg.r gg.n t0 p0 p1 p2 p3 p4 p5) (BRW D [(a0, .inr (3, [.ref a1, .ref a2, .ref a3, .ref a4, .int gg.hs, .ref a5, .ref a6, .ref a7, .int (nI gg.L), .int (nI gg.M), .int mm.pl, .ref a8, .int mm.sd])), (a1, .inl (cI, 49, .inl gg.r)), (a2, .inl (cI, 49, .inl mm.m)), (a3, .inl (cI, 49, .inl gg.im)), (a4, .inl (cI, 49, .inl mm.ws)), (a5, .inl (cI, 96, .inl gg.lt)), (a6, .inl (cI, 16, .inl gg.rw)), (a7, .inl (cI, 7, .inl gg.rf)), (a8, .inl (cI, 3, .inl mm.nb))] sz (fun u => [(a0, .inr (3, [.ref a1, .ref a2, .ref a3, .ref a4, .int gg.hs, .ref a5, .ref a6, .ref a7, .int (nI gg.L), .int (nI gg.M), .int mm.pl, .ref a8, .int mm.sd])), (a1, .inl (cI, 49, .inl gg.r)), (a2, .inl (cI, 49, .inl u)), (a3, .inl (cI, 49, .inl gg.im)), (a4, .inl (cI, 49, .inl mm.ws)), (a5, .inl (cI, 96, .inl gg.lt)), (a6, .inl (cI, 16, .inl gg.rw)), (a7, .inl (cI, 7, .inl gg.rf)), (a8, .inl (cI, 3, .inl mm.nb))])) (va_A [(a0, .inr (3, [.ref a1, .ref a2, .ref a3, .ref a4, .int gg.hs, .ref a5, .ref a6, .ref a7, .int (nI gg.L), .int (nI gg.M), .int mm.pl, .ref a8, .int mm.sd])), (a1, .inl (cI, 49, .inl gg.r)), (a2, .inl (cI, 49, .inl mm.m)), (a3, .inl (cI, 49, .inl gg.im)), (a4, .inl (cI, 49, .inl mm.ws)), (a5, .inl (cI, 96, .inl gg.lt)), (a6, .inl (cI, 16, .inl gg.rw)), (a7, .inl (cI, 7, .inl gg.rf)), (a8, .inl (cI, 3, .inl mm.nb))] sz)) 0 0 (va_A [(a0, .inr (3, [.ref a1, .ref a2, .ref a3, .ref a4, .int gg.hs, .ref a5, .ref a6, .ref a7, .int (nI gg.L), .int (nI gg.M), .int mm.pl, .ref a8, .int mm.sd])), (a1, .inl (cI, 49, .inl gg.r)), (a2, .inl (cI, 49, .inl mm.m)), (a3, .inl (cI, 49, .inl gg.im)), (a4, .inl (cI, 49, .inl mm.ws)), (a5, .inl (cI, 96, .inl gg.lt)), (a6, .inl (cI, 16, .inl gg.rw)), (a7, .inl (cI, 7, .inl gg.rf)), (a8, .inl (cI, 3, .inl mm.nb))] sz) := by
  refine st_rwi (cc := cX4_softerBy) (maxL := 11) (rt := .int) (by decide) rfl (Nat.le_of_ble_eq_true rfl) (fun _ _ _ => rfl) ?_
  intro p e s m below meth c Q ls A hx hb hml hts hown hP hK hD hA hS hl hret
  replace hown : s.vm.findClass RX4 = some m.cls := hown
  replace hl : lv_has ls 11 [(0, .ref a0), (1, .int p0), (2, .int p1), (3, .int p2), (4, .int p3), (5, .int p4), (6, .int p5), (7, .int p6)] := hl
  obtain ⟨H, hH⟩ : ∃ z, z = s.heap := ⟨_, rfl⟩
  obtain ⟨locs, hlo⟩ : ∃ z : List Loc, z = [] := ⟨_, rfl⟩
  replace hP : va_P D vwCl [(a0, .inr (3, [.ref a1, .ref a2, .ref a3, .ref a4, .int gg.hs, .ref a5, .ref a6, .ref a7, .int (nI gg.L), .int (nI gg.M), .int mm.pl, .ref a8, .int mm.sd])), (a1, .inl (cI, 49, .inl gg.r)), (a2, .inl (cI, 49, .inl mm.m)), (a3, .inl (cI, 49, .inl gg.im)), (a4, .inl (cI, 49, .inl mm.ws)), (a5, .inl (cI, 96, .inl gg.lt)), (a6, .inl (cI, 16, .inl gg.rw)), (a7, .inl (cI, 7, .inl gg.rf)), (a8, .inl (cI, 3, .inl mm.nb))] H := by rw [hH]; exact hP
  replace hS : va_S A s.heap H locs := by rw [hH, hlo]; exact hS
  show W p l e ({ frames := 7, cells := 0, slots := 0, locals := 155 }) s m [.ref a0, .int p0, .int p1, .int p2, .int p3, .int p4, .int p5, .int p6].toArray below meth c s.heap [] 0 0 Q (F0 m 0 ls [])
  rw [← hlo]
  suffices hgo : W p l e ({ frames := 7, cells := 0, slots := 0, locals := 155 }) s m [.ref a0, .int p0, .int p1, .int p2, .int p3, .int p4, .int p5, .int p6].toArray below meth c H locs 0 0 Q (F0 m 0 ls []) by rw [hH] at hgo; exact hgo
  clear hH hlo
  have hi_X4 : ∀ w ∈ wsX40, w ∈ wsX4_softerBy := fun w h => List.mem_cons_of_mem _ (List.mem_append_right _ (h))
  have hk_9 := hts (.fieldLink RX4 9 "NestsOfTalkModel" "s" "[I") (List.mem_of_getElem? (i := 1) rfl)
  have hk_13 := hts (.fieldLink RX4 13 "NestsOfTalkModel" "m" "[I") (List.mem_of_getElem? (i := 2) rfl)
  have hI := hG.inv
  have hn9 := hI.le
  have hL96 := hG.L96
  have hM16 := hG.M16
  refine lv_aload_n hx hb dX4_softerBy_0 rfl (lv_at hl 0 rfl) ?_
  refine va_get (D := D) (ci := 3) (v := .ref a1) (C := RX4) (T := TX4) (N := 13) hx hb hts hi_X4 hown hK.1 hP 0 rfl rfl 0 (by decide) hk_9 (fun _ h9 => h9) rfl dX4_softerBy_1 ?_
  refine lv_aload_n hx hb dX4_softerBy_4 rfl (lv_at hl 0 rfl) ?_
  refine va_get (D := D) (ci := 3) (v := .ref a2) (C := RX4) (T := TX4) (N := 13) hx hb hts hi_X4 hown hK.1 hP 0 rfl rfl 1 (by decide) hk_13 (fun _ h9 => h9) rfl dX4_softerBy_5 ?_
  refine xw_Sv (As := [.ref a1, .ref a2]) (rest := []) (Wn := fun u => [(a0, .inr (3, [.ref a1, .ref a2, .ref a3, .ref a4, .int gg.hs, .ref a5, .ref a6, .ref a7, .int (nI gg.L), .int (nI gg.M), .int mm.pl, .ref a8, .int mm.sd])), (a1, .inl (cI, 49, .inl gg.r)), (a2, .inl (cI, 49, .inl gg.r)), (a3, .inl (cI, 49, .inl gg.im)), (a4, .inl (cI, 49, .inl mm.ws)), (a5, .inl (cI, 96, .inl gg.lt)), (a6, .inl (cI, 16, .inl gg.rw)), (a7, .inl (cI, 7, .inl gg.rf)), (a8, .inl (cI, 3, .inl mm.nb))]) (Wr := [(a0, .inr (3, [.ref a1, .ref a2, .ref a3, .ref a4, .int gg.hs, .ref a5, .ref a6, .ref a7, .int (nI gg.L), .int (nI gg.M), .int mm.pl, .ref a8, .int mm.sd])), (a3, .inl (cI, 49, .inl gg.im)), (a4, .inl (cI, 49, .inl mm.ws)), (a5, .inl (cI, 96, .inl gg.lt)), (a6, .inl (cI, 16, .inl gg.rw)), (a7, .inl (cI, 7, .inl gg.rf)), (a8, .inl (cI, 3, .inl mm.nb))]) ⟨hx, hb, hml, hown, hts⟩ (kX4_copies l D cI H.size a1 a2 gg.r mm.m) (va_cwS 2 hts gX4_softerBy_X4_copies rfl rfl rfl hs_X4_copies ⟨Nat.le_of_ble_eq_true rfl, Nat.le_of_ble_eq_true rfl⟩) hK hP hD hS hA [1, 2] [0, 3, 4, 5, 6, 7, 8] [0, 7, 8, 1, 2, 3, 4, 5, 6] rfl rfl (by decide) (by decide) (by decide) (by decide) (fun u => rfl) rfl hl.1 rfl (Nat.le_of_ble_eq_true rfl) dX4_softerBy_8 ⟨Nat.zero_le _, Nat.zero_le _⟩ (fun u_1 H locs hw_1 hP hD hS => ?_)
  refine lv_iload hx hb dX4_softerBy_11 (lv_at hl 4 rfl) ?_
  refine lv_iconst (v := 1) hx hb dX4_softerBy_13 (by decide) ?_
  refine lv_icmp_ne (tgt := 35) hx hb dX4_softerBy_14 (by decide) (fun c_2 => ?_) (fun c_2 => ?_)
  · skip
    refine lv_iconst (v := 0) hx hb dX4_softerBy_35 (by decide) ?_
    refine lv_istore (lv' := [(8, .int 0), (0, .ref a0), (1, .int p0), (2, .int p1), (3, .int p2), (4, .int p3), (5, .int p4), (6, .int p5), (7, .int p6)]) hx hb dX4_softerBy_36 hl (by decide) rfl (fun ls hl => ?_)
    refine lv_iload hx hb dX4_softerBy_38 (lv_at hl 7 rfl) ?_
    refine lv_iconst (v := 1) hx hb dX4_softerBy_40 (by decide) ?_
    refine lv_icmp_ne (tgt := 61) hx hb dX4_softerBy_41 (by decide) (fun c_3 => ?_) (fun c_3 => ?_)
    · skip
      refine lv_iconst (v := 0) hx hb dX4_softerBy_61 (by decide) ?_
      refine lv_istore (lv' := [(9, .int 0), (8, .int 0), (0, .ref a0), (1, .int p0), (2, .int p1), (3, .int p2), (4, .int p3), (5, .int p4), (6, .int p5), (7, .int p6)]) hx hb dX4_softerBy_62 hl (by decide) rfl (fun ls hl => ?_)
      refine lv_aload_n hx hb dX4_softerBy_64 rfl (lv_at hl 2 rfl) ?_
      refine va_get (D := D) (ci := 3) (v := .ref a2) (C := RX4) (T := TX4) (N := 13) hx hb hts hi_X4 hown hK.1 hP 0 rfl rfl 1 (by decide) hk_13 (fun _ h9 => h9) rfl dX4_softerBy_65 ?_
      refine lv_iload hx hb dX4_softerBy_68 (lv_at hl 9 rfl) ?_
      refine xw_Si (As := [.ref a2, .int p6]) (rest := []) (Wn := fun u => [(a0, .inr (3, [.ref a1, .ref a2, .ref a3, .ref a4, .int gg.hs, .ref a5, .ref a6, .ref a7, .int (nI gg.L), .int (nI gg.M), .int mm.pl, .ref a8, .int mm.sd])), (a1, .inl (cI, 49, .inl gg.r)), (a2, .inl (cI, 49, .inl u)), (a3, .inl (cI, 49, .inl gg.im)), (a4, .inl (cI, 49, .inl mm.ws)), (a5, .inl (cI, 96, .inl gg.lt)), (a6, .inl (cI, 16, .inl gg.rw)), (a7, .inl (cI, 7, .inl gg.rf)), (a8, .inl (cI, 3, .inl mm.nb))]) (Wr := [(a0, .inr (3, [.ref a1, .ref a2, .ref a3, .ref a4, .int gg.hs, .ref a5, .ref a6, .ref a7, .int (nI gg.L), .int (nI gg.M), .int mm.pl, .ref a8, .int mm.sd])), (a1, .inl (cI, 49, .inl gg.r)), (a3, .inl (cI, 49, .inl gg.im)), (a4, .inl (cI, 49, .inl mm.ws)), (a5, .inl (cI, 96, .inl gg.lt)), (a6, .inl (cI, 16, .inl gg.rw)), (a7, .inl (cI, 7, .inl gg.rf)), (a8, .inl (cI, 3, .inl mm.nb))]) ⟨hx, hb, hml, hown, hts⟩ (kX4_daysOn l D cI H.size a2 gg.r gg.n hI p6 t0 hp0 (by omega)) (va_cwS 2 hts gX4_softerBy_X4_daysOn rfl rfl rfl hs_X4_daysOn ⟨Nat.le_of_ble_eq_true rfl, Nat.le_of_ble_eq_true rfl⟩) hK hP hD hS hA [2] [0, 1, 3, 4, 5, 6, 7, 8] [0, 1, 8, 2, 3, 4, 5, 6, 7] rfl rfl (by decide) (by decide) (by decide) (by decide) (fun u => rfl) rfl hl.1 rfl (Nat.le_of_ble_eq_true rfl) dX4_softerBy_70 ⟨Nat.zero_le _, Nat.zero_le _⟩ (fun r_4 u_4 H locs hw_4 hP hD hS => ?_)
      obtain ⟨hr_4, hu_4⟩ := hw_4
      have hI_u_4 : Inv gg.n u_4 := (by rw [hu_4]; exact hI.idsR _)
      refine lv_istore (lv' := [(10, .int r_4), (9, .int 0), (8, .int 0), (0, .ref a0), (1, .int p0), (2, .int p1), (3, .int p2), (4, .int p3), (5, .int p4), (6, .int p5), (7, .int p6)]) hx hb dX4_softerBy_73 hl (by decide) rfl (fun ls hl => ?_)
      refine lv_aload_n hx hb dX4_softerBy_75 rfl (lv_at hl 3 rfl) ?_
      refine va_get (D := D) (ci := 3) (v := .ref a2) (C := RX4) (T := TX4) (N := 13) hx hb hts hi_X4 hown hK.1 hP 0 rfl rfl 1 (by decide) hk_13 (fun _ h9 => h9) rfl dX4_softerBy_76 ?_
      refine lv_aload_n hx hb dX4_softerBy_79 rfl (lv_at hl 3 rfl) ?_
      refine va_get (D := D) (ci := 3) (v := .ref a2) (C := RX4) (T := TX4) (N := 13) hx hb hts hi_X4 hown hK.1 hP 0 rfl rfl 1 (by decide) hk_13 (fun _ h9 => h9) rfl dX4_softerBy_80 ?_
      refine lv_iload_n hx hb dX4_softerBy_83 rfl (lv_at hl 4 rfl) ?_
      refine xc_Si (As := [.ref a2, .int p0]) (rest := [.ref a2]) ⟨hx, hb, hml, hown, hts⟩ (kX4_nestIn l D cI a2 u_4 gg.n hI_u_4 p0) (va_cwS 2 hts gX4_softerBy_X4_nestIn rfl rfl rfl hs_X4_nestIn ⟨Nat.le_of_ble_eq_true rfl, Nat.le_of_ble_eq_true rfl⟩) hK hP [2] rfl rfl hl.1 rfl (Nat.le_of_ble_eq_true rfl) dX4_softerBy_84 ⟨Nat.zero_le _, Nat.zero_le _⟩ (fun r_5 hr_5 => ?_)
      refine lv_iconst (v := 1) hx hb dX4_softerBy_87 (by decide) ?_
      refine xc_Si (As := [.ref a2, .int r_5, .int 1]) (rest := []) ⟨hx, hb, hml, hown, hts⟩ (kX4_sumOf l D cI a2 u_4 gg.n hI_u_4 r_5 1) (va_cwS 3 hts gX4_softerBy_X4_sumOf rfl rfl rfl hs_X4_sumOf ⟨Nat.le_of_ble_eq_true rfl, Nat.le_of_ble_eq_true rfl⟩) hK hP [2] rfl rfl hl.1 rfl (Nat.le_of_ble_eq_true rfl) dX4_softerBy_88 ⟨Nat.zero_le _, Nat.zero_le _⟩ (fun r_6 hr_6 => ?_)
      refine lv_aload_n hx hb dX4_softerBy_91 rfl (lv_at hl 3 rfl) ?_
      refine va_get (D := D) (ci := 3) (v := .ref a2) (C := RX4) (T := TX4) (N := 13) hx hb hts hi_X4 hown hK.1 hP 0 rfl rfl 1 (by decide) hk_13 (fun _ h9 => h9) rfl dX4_softerBy_92 ?_
      refine lv_aload_n hx hb dX4_softerBy_95 rfl (lv_at hl 3 rfl) ?_
      refine va_get (D := D) (ci := 3) (v := .ref a2) (C := RX4) (T := TX4) (N := 13) hx hb hts hi_X4 hown hK.1 hP 0 rfl rfl 1 (by decide) hk_13 (fun _ h9 => h9) rfl dX4_softerBy_96 ?_
      refine lv_iload_n hx hb dX4_softerBy_99 rfl (lv_at hl 5 rfl) ?_
      refine xc_Si (As := [.ref a2, .int p1]) (rest := [.ref a2, .int r_6]) ⟨hx, hb, hml, hown, hts⟩ (kX4_nestIn l D cI a2 u_4 gg.n hI_u_4 p1) (va_cwS 2 hts gX4_softerBy_X4_nestIn rfl rfl rfl hs_X4_nestIn ⟨Nat.le_of_ble_eq_true rfl, Nat.le_of_ble_eq_true rfl⟩) hK hP [2] rfl rfl hl.1 rfl (Nat.le_of_ble_eq_true rfl) dX4_softerBy_100 ⟨Nat.zero_le _, Nat.zero_le _⟩ (fun r_7 hr_7 => ?_)
      refine lv_iconst (v := 1) hx hb dX4_softerBy_103 (by decide) ?_
      refine xc_Si (As := [.ref a2, .int r_7, .int 1]) (rest := [.int r_6]) ⟨hx, hb, hml, hown, hts⟩ (kX4_sumOf l D cI a2 u_4 gg.n hI_u_4 r_7 1) (va_cwS 3 hts gX4_softerBy_X4_sumOf rfl rfl rfl hs_X4_sumOf ⟨Nat.le_of_ble_eq_true rfl, Nat.le_of_ble_eq_true rfl⟩) hK hP [2] rfl rfl hl.1 rfl (Nat.le_of_ble_eq_true rfl) dX4_softerBy_104 ⟨Nat.zero_le _, Nat.zero_le _⟩ (fun r_8 hr_8 => ?_)
      refine lv_isub hx hb dX4_softerBy_107 ?_
      exact hret 108 _ (r_6 - r_8) u_4 _ _ dX4_softerBy_108 (by first | (exfalso; omega) | simp [sfV, sfQ, ad1, c_2, c_3, hr_4, hr_5, hr_6, hr_7, hr_8, hu_4]) hP hD hS
    refine lv_aload_n hx hb dX4_softerBy_44 rfl (lv_at hl 1 rfl) ?_
    refine va_get (D := D) (ci := 3) (v := .ref a2) (C := RX4) (T := TX4) (N := 13) hx hb hts hi_X4 hown hK.1 hP 0 rfl rfl 1 (by decide) hk_13 (fun _ h9 => h9) rfl dX4_softerBy_45 ?_
    refine lv_iconst (v := 4) hx hb dX4_softerBy_48 (by decide) ?_
    refine lv_iconst (v := 5) hx hb dX4_softerBy_49 (by decide) ?_
    refine lv_iload_n hx hb dX4_softerBy_50 rfl (lv_at hl 4 rfl) ?_
    refine xw_Si (As := [.ref a2, .int 4, .int 5, .int p2]) (rest := []) (Wn := fun u => [(a0, .inr (3, [.ref a1, .ref a2, .ref a3, .ref a4, .int gg.hs, .ref a5, .ref a6, .ref a7, .int (nI gg.L), .int (nI gg.M), .int mm.pl, .ref a8, .int mm.sd])), (a1, .inl (cI, 49, .inl gg.r)), (a2, .inl (cI, 49, .inl u)), (a3, .inl (cI, 49, .inl gg.im)), (a4, .inl (cI, 49, .inl mm.ws)), (a5, .inl (cI, 96, .inl gg.lt)), (a6, .inl (cI, 16, .inl gg.rw)), (a7, .inl (cI, 7, .inl gg.rf)), (a8, .inl (cI, 3, .inl mm.nb))]) (Wr := [(a0, .inr (3, [.ref a1, .ref a2, .ref a3, .ref a4, .int gg.hs, .ref a5, .ref a6, .ref a7, .int (nI gg.L), .int (nI gg.M), .int mm.pl, .ref a8, .int mm.sd])), (a1, .inl (cI, 49, .inl gg.r)), (a3, .inl (cI, 49, .inl gg.im)), (a4, .inl (cI, 49, .inl mm.ws)), (a5, .inl (cI, 96, .inl gg.lt)), (a6, .inl (cI, 16, .inl gg.rw)), (a7, .inl (cI, 7, .inl gg.rf)), (a8, .inl (cI, 3, .inl mm.nb))]) ⟨hx, hb, hml, hown, hts⟩ (kX4_adds l D cI H.size a2 gg.r gg.n hI 4 5 p2) (va_cwS 4 hts gX4_softerBy_X4_adds rfl rfl rfl hs_X4_adds ⟨Nat.le_of_ble_eq_true rfl, Nat.le_of_ble_eq_true rfl⟩) hK hP hD hS hA [2] [0, 1, 3, 4, 5, 6, 7, 8] [0, 1, 8, 2, 3, 4, 5, 6, 7] rfl rfl (by decide) (by decide) (by decide) (by decide) (fun u => rfl) rfl hl.1 rfl (Nat.le_of_ble_eq_true rfl) dX4_softerBy_51 ⟨Nat.zero_le _, Nat.zero_le _⟩ (fun r_9 u_9 H locs hw_9 hP hD hS => ?_)
    refine lv_if_eq (tgt := 61) hx hb dX4_softerBy_54 (by decide) (fun c_10 => ?_) (fun c_10 => ?_)
    · skip
      obtain ⟨hl_9, hu_9⟩ : gg.n = 9 ∧ u_9 = gg.r := by
        rcases hw_9 with q | q
        · exact ⟨q.1, q.2.2⟩
        · exact absurd (q.2.1.symm.trans c_10) (by decide)
      have hI_u_9 : Inv gg.n u_9 := (by rw [hu_9]; exact hI)
      refine lv_iconst (v := 0) hx hb dX4_softerBy_61 (by decide) ?_
      refine lv_istore (lv' := [(9, .int 0), (8, .int 0), (0, .ref a0), (1, .int p0), (2, .int p1), (3, .int p2), (4, .int p3), (5, .int p4), (6, .int p5), (7, .int p6)]) hx hb dX4_softerBy_62 hl (by decide) rfl (fun ls hl => ?_)
      refine lv_aload_n hx hb dX4_softerBy_64 rfl (lv_at hl 2 rfl) ?_
      refine va_get (D := D) (ci := 3) (v := .ref a2) (C := RX4) (T := TX4) (N := 13) hx hb hts hi_X4 hown hK.1 hP 0 rfl rfl 1 (by decide) hk_13 (fun _ h9 => h9) rfl dX4_softerBy_65 ?_
      refine lv_iload hx hb dX4_softerBy_68 (lv_at hl 9 rfl) ?_
      refine xw_Si (As := [.ref a2, .int p6]) (rest := []) (Wn := fun u => [(a0, .inr (3, [.ref a1, .ref a2, .ref a3, .ref a4, .int gg.hs, .ref a5, .ref a6, .ref a7, .int (nI gg.L), .int (nI gg.M), .int mm.pl, .ref a8, .int mm.sd])), (a1, .inl (cI, 49, .inl gg.r)), (a2, .inl (cI, 49, .inl u)), (a3, .inl (cI, 49, .inl gg.im)), (a4, .inl (cI, 49, .inl mm.ws)), (a5, .inl (cI, 96, .inl gg.lt)), (a6, .inl (cI, 16, .inl gg.rw)), (a7, .inl (cI, 7, .inl gg.rf)), (a8, .inl (cI, 3, .inl mm.nb))]) (Wr := [(a0, .inr (3, [.ref a1, .ref a2, .ref a3, .ref a4, .int gg.hs, .ref a5, .ref a6, .ref a7, .int (nI gg.L), .int (nI gg.M), .int mm.pl, .ref a8, .int mm.sd])), (a1, .inl (cI, 49, .inl gg.r)), (a3, .inl (cI, 49, .inl gg.im)), (a4, .inl (cI, 49, .inl mm.ws)), (a5, .inl (cI, 96, .inl gg.lt)), (a6, .inl (cI, 16, .inl gg.rw)), (a7, .inl (cI, 7, .inl gg.rf)), (a8, .inl (cI, 3, .inl mm.nb))]) ⟨hx, hb, hml, hown, hts⟩ (kX4_daysOn l D cI H.size a2 u_9 gg.n hI_u_9 p6 t0 hp0 (by omega)) (va_cwS 2 hts gX4_softerBy_X4_daysOn rfl rfl rfl hs_X4_daysOn ⟨Nat.le_of_ble_eq_true rfl, Nat.le_of_ble_eq_true rfl⟩) hK hP hD hS hA [2] [0, 1, 3, 4, 5, 6, 7, 8] [0, 1, 8, 2, 3, 4, 5, 6, 7] rfl rfl (by decide) (by decide) (by decide) (by decide) (fun u => rfl) rfl hl.1 rfl (Nat.le_of_ble_eq_true rfl) dX4_softerBy_70 ⟨Nat.zero_le _, Nat.zero_le _⟩ (fun r_11 u_11 H locs hw_11 hP hD hS => ?_)
      obtain ⟨hr_11, hu_11⟩ := hw_11
      have hI_u_11 : Inv gg.n u_11 := (by rw [hu_11]; exact hI_u_9.idsR _)
      refine lv_istore (lv' := [(10, .int r_11), (9, .int 0), (8, .int 0), (0, .ref a0), (1, .int p0), (2, .int p1), (3, .int p2), (4, .int p3), (5, .int p4), (6, .int p5), (7, .int p6)]) hx hb dX4_softerBy_73 hl (by decide) rfl (fun ls hl => ?_)
      refine lv_aload_n hx hb dX4_softerBy_75 rfl (lv_at hl 3 rfl) ?_
      refine va_get (D := D) (ci := 3) (v := .ref a2) (C := RX4) (T := TX4) (N := 13) hx hb hts hi_X4 hown hK.1 hP 0 rfl rfl 1 (by decide) hk_13 (fun _ h9 => h9) rfl dX4_softerBy_76 ?_
      refine lv_aload_n hx hb dX4_softerBy_79 rfl (lv_at hl 3 rfl) ?_
      refine va_get (D := D) (ci := 3) (v := .ref a2) (C := RX4) (T := TX4) (N := 13) hx hb hts hi_X4 hown hK.1 hP 0 rfl rfl 1 (by decide) hk_13 (fun _ h9 => h9) rfl dX4_softerBy_80 ?_
      refine lv_iload_n hx hb dX4_softerBy_83 rfl (lv_at hl 4 rfl) ?_
      refine xc_Si (As := [.ref a2, .int p0]) (rest := [.ref a2]) ⟨hx, hb, hml, hown, hts⟩ (kX4_nestIn l D cI a2 u_11 gg.n hI_u_11 p0) (va_cwS 2 hts gX4_softerBy_X4_nestIn rfl rfl rfl hs_X4_nestIn ⟨Nat.le_of_ble_eq_true rfl, Nat.le_of_ble_eq_true rfl⟩) hK hP [2] rfl rfl hl.1 rfl (Nat.le_of_ble_eq_true rfl) dX4_softerBy_84 ⟨Nat.zero_le _, Nat.zero_le _⟩ (fun r_12 hr_12 => ?_)
      refine lv_iconst (v := 1) hx hb dX4_softerBy_87 (by decide) ?_
      refine xc_Si (As := [.ref a2, .int r_12, .int 1]) (rest := []) ⟨hx, hb, hml, hown, hts⟩ (kX4_sumOf l D cI a2 u_11 gg.n hI_u_11 r_12 1) (va_cwS 3 hts gX4_softerBy_X4_sumOf rfl rfl rfl hs_X4_sumOf ⟨Nat.le_of_ble_eq_true rfl, Nat.le_of_ble_eq_true rfl⟩) hK hP [2] rfl rfl hl.1 rfl (Nat.le_of_ble_eq_true rfl) dX4_softerBy_88 ⟨Nat.zero_le _, Nat.zero_le _⟩ (fun r_13 hr_13 => ?_)
      refine lv_aload_n hx hb dX4_softerBy_91 rfl (lv_at hl 3 rfl) ?_
      refine va_get (D := D) (ci := 3) (v := .ref a2) (C := RX4) (T := TX4) (N := 13) hx hb hts hi_X4 hown hK.1 hP 0 rfl rfl 1 (by decide) hk_13 (fun _ h9 => h9) rfl dX4_softerBy_92 ?_
      refine lv_aload_n hx hb dX4_softerBy_95 rfl (lv_at hl 3 rfl) ?_
      refine va_get (D := D) (ci := 3) (v := .ref a2) (C := RX4) (T := TX4) (N := 13) hx hb hts hi_X4 hown hK.1 hP 0 rfl rfl 1 (by decide) hk_13 (fun _ h9 => h9) rfl dX4_softerBy_96 ?_
      refine lv_iload_n hx hb dX4_softerBy_99 rfl (lv_at hl 5 rfl) ?_
      refine xc_Si (As := [.ref a2, .int p1]) (rest := [.ref a2, .int r_13]) ⟨hx, hb, hml, hown, hts⟩ (kX4_nestIn l D cI a2 u_11 gg.n hI_u_11 p1) (va_cwS 2 hts gX4_softerBy_X4_nestIn rfl rfl rfl hs_X4_nestIn ⟨Nat.le_of_ble_eq_true rfl, Nat.le_of_ble_eq_true rfl⟩) hK hP [2] rfl rfl hl.1 rfl (Nat.le_of_ble_eq_true rfl) dX4_softerBy_100 ⟨Nat.zero_le _, Nat.zero_le _⟩ (fun r_14 hr_14 => ?_)
      refine lv_iconst (v := 1) hx hb dX4_softerBy_103 (by decide) ?_
      refine xc_Si (As := [.ref a2, .int r_14, .int 1]) (rest := [.int r_13]) ⟨hx, hb, hml, hown, hts⟩ (kX4_sumOf l D cI a2 u_11 gg.n hI_u_11 r_14 1) (va_cwS 3 hts gX4_softerBy_X4_sumOf rfl rfl rfl hs_X4_sumOf ⟨Nat.le_of_ble_eq_true rfl, Nat.le_of_ble_eq_true rfl⟩) hK hP [2] rfl rfl hl.1 rfl (Nat.le_of_ble_eq_true rfl) dX4_softerBy_104 ⟨Nat.zero_le _, Nat.zero_le _⟩ (fun r_15 hr_15 => ?_)
      refine lv_isub hx hb dX4_softerBy_107 ?_
      exact hret 108 _ (r_13 - r_15) u_11 _ _ dX4_softerBy_108 (by first | (exfalso; omega) | simp [sfV, sfQ, ad1, c_2, c_3, hl_9, hr_11, hr_12, hr_13, hr_14, hr_15, hu_9, hu_11]) hP hD hS
    obtain ⟨hl_9, hv9_9, hu_9⟩ : gg.n < 9 ∧ r_9 = 1 ∧ u_9 = addR gg.r gg.n 4 5 p2 := by
      rcases hw_9 with q | q
      · exact absurd q.2.1 c_10
      · exact q
    have hI_u_9 : Inv (gg.n + 1) u_9 := (by rw [hu_9]; exact hI.iaddN hl_9 (k := 4) (f := 5) (by omega) (by omega) (okv_2 hwa4 hwa))
    refine lv_iconst (v := 1) hx hb dX4_softerBy_57 (by decide) ?_
    refine lv_goto (tgt := 62) hx hb dX4_softerBy_58 (by decide) ?_
    refine lv_istore (lv' := [(9, .int 1), (8, .int 0), (0, .ref a0), (1, .int p0), (2, .int p1), (3, .int p2), (4, .int p3), (5, .int p4), (6, .int p5), (7, .int p6)]) hx hb dX4_softerBy_62 hl (by decide) rfl (fun ls hl => ?_)
    refine lv_aload_n hx hb dX4_softerBy_64 rfl (lv_at hl 2 rfl) ?_
    refine va_get (D := D) (ci := 3) (v := .ref a2) (C := RX4) (T := TX4) (N := 13) hx hb hts hi_X4 hown hK.1 hP 0 rfl rfl 1 (by decide) hk_13 (fun _ h9 => h9) rfl dX4_softerBy_65 ?_
    refine lv_iload hx hb dX4_softerBy_68 (lv_at hl 9 rfl) ?_
    refine xw_Si (As := [.ref a2, .int p6]) (rest := []) (Wn := fun u => [(a0, .inr (3, [.ref a1, .ref a2, .ref a3, .ref a4, .int gg.hs, .ref a5, .ref a6, .ref a7, .int (nI gg.L), .int (nI gg.M), .int mm.pl, .ref a8, .int mm.sd])), (a1, .inl (cI, 49, .inl gg.r)), (a2, .inl (cI, 49, .inl u)), (a3, .inl (cI, 49, .inl gg.im)), (a4, .inl (cI, 49, .inl mm.ws)), (a5, .inl (cI, 96, .inl gg.lt)), (a6, .inl (cI, 16, .inl gg.rw)), (a7, .inl (cI, 7, .inl gg.rf)), (a8, .inl (cI, 3, .inl mm.nb))]) (Wr := [(a0, .inr (3, [.ref a1, .ref a2, .ref a3, .ref a4, .int gg.hs, .ref a5, .ref a6, .ref a7, .int (nI gg.L), .int (nI gg.M), .int mm.pl, .ref a8, .int mm.sd])), (a1, .inl (cI, 49, .inl gg.r)), (a3, .inl (cI, 49, .inl gg.im)), (a4, .inl (cI, 49, .inl mm.ws)), (a5, .inl (cI, 96, .inl gg.lt)), (a6, .inl (cI, 16, .inl gg.rw)), (a7, .inl (cI, 7, .inl gg.rf)), (a8, .inl (cI, 3, .inl mm.nb))]) ⟨hx, hb, hml, hown, hts⟩ (kX4_daysOn l D cI H.size a2 u_9 (gg.n + 1) hI_u_9 p6 t0 hp0 (by omega)) (va_cwS 2 hts gX4_softerBy_X4_daysOn rfl rfl rfl hs_X4_daysOn ⟨Nat.le_of_ble_eq_true rfl, Nat.le_of_ble_eq_true rfl⟩) hK hP hD hS hA [2] [0, 1, 3, 4, 5, 6, 7, 8] [0, 1, 8, 2, 3, 4, 5, 6, 7] rfl rfl (by decide) (by decide) (by decide) (by decide) (fun u => rfl) rfl hl.1 rfl (Nat.le_of_ble_eq_true rfl) dX4_softerBy_70 ⟨Nat.zero_le _, Nat.zero_le _⟩ (fun r_16 u_16 H locs hw_16 hP hD hS => ?_)
    obtain ⟨hr_16, hu_16⟩ := hw_16
    have hI_u_16 : Inv (gg.n + 1) u_16 := (by rw [hu_16]; exact hI_u_9.idsR _)
    refine lv_istore (lv' := [(10, .int r_16), (9, .int 1), (8, .int 0), (0, .ref a0), (1, .int p0), (2, .int p1), (3, .int p2), (4, .int p3), (5, .int p4), (6, .int p5), (7, .int p6)]) hx hb dX4_softerBy_73 hl (by decide) rfl (fun ls hl => ?_)
    refine lv_aload_n hx hb dX4_softerBy_75 rfl (lv_at hl 3 rfl) ?_
    refine va_get (D := D) (ci := 3) (v := .ref a2) (C := RX4) (T := TX4) (N := 13) hx hb hts hi_X4 hown hK.1 hP 0 rfl rfl 1 (by decide) hk_13 (fun _ h9 => h9) rfl dX4_softerBy_76 ?_
    refine lv_aload_n hx hb dX4_softerBy_79 rfl (lv_at hl 3 rfl) ?_
    refine va_get (D := D) (ci := 3) (v := .ref a2) (C := RX4) (T := TX4) (N := 13) hx hb hts hi_X4 hown hK.1 hP 0 rfl rfl 1 (by decide) hk_13 (fun _ h9 => h9) rfl dX4_softerBy_80 ?_
    refine lv_iload_n hx hb dX4_softerBy_83 rfl (lv_at hl 4 rfl) ?_
    refine xc_Si (As := [.ref a2, .int p0]) (rest := [.ref a2]) ⟨hx, hb, hml, hown, hts⟩ (kX4_nestIn l D cI a2 u_16 (gg.n + 1) hI_u_16 p0) (va_cwS 2 hts gX4_softerBy_X4_nestIn rfl rfl rfl hs_X4_nestIn ⟨Nat.le_of_ble_eq_true rfl, Nat.le_of_ble_eq_true rfl⟩) hK hP [2] rfl rfl hl.1 rfl (Nat.le_of_ble_eq_true rfl) dX4_softerBy_84 ⟨Nat.zero_le _, Nat.zero_le _⟩ (fun r_17 hr_17 => ?_)
    refine lv_iconst (v := 1) hx hb dX4_softerBy_87 (by decide) ?_
    refine xc_Si (As := [.ref a2, .int r_17, .int 1]) (rest := []) ⟨hx, hb, hml, hown, hts⟩ (kX4_sumOf l D cI a2 u_16 (gg.n + 1) hI_u_16 r_17 1) (va_cwS 3 hts gX4_softerBy_X4_sumOf rfl rfl rfl hs_X4_sumOf ⟨Nat.le_of_ble_eq_true rfl, Nat.le_of_ble_eq_true rfl⟩) hK hP [2] rfl rfl hl.1 rfl (Nat.le_of_ble_eq_true rfl) dX4_softerBy_88 ⟨Nat.zero_le _, Nat.zero_le _⟩ (fun r_18 hr_18 => ?_)
    refine lv_aload_n hx hb dX4_softerBy_91 rfl (lv_at hl 3 rfl) ?_
    refine va_get (D := D) (ci := 3) (v := .ref a2) (C := RX4) (T := TX4) (N := 13) hx hb hts hi_X4 hown hK.1 hP 0 rfl rfl 1 (by decide) hk_13 (fun _ h9 => h9) rfl dX4_softerBy_92 ?_
    refine lv_aload_n hx hb dX4_softerBy_95 rfl (lv_at hl 3 rfl) ?_
    refine va_get (D := D) (ci := 3) (v := .ref a2) (C := RX4) (T := TX4) (N := 13) hx hb hts hi_X4 hown hK.1 hP 0 rfl rfl 1 (by decide) hk_13 (fun _ h9 => h9) rfl dX4_softerBy_96 ?_
    refine lv_iload_n hx hb dX4_softerBy_99 rfl (lv_at hl 5 rfl) ?_
    refine xc_Si (As := [.ref a2, .int p1]) (rest := [.ref a2, .int r_18]) ⟨hx, hb, hml, hown, hts⟩ (kX4_nestIn l D cI a2 u_16 (gg.n + 1) hI_u_16 p1) (va_cwS 2 hts gX4_softerBy_X4_nestIn rfl rfl rfl hs_X4_nestIn ⟨Nat.le_of_ble_eq_true rfl, Nat.le_of_ble_eq_true rfl⟩) hK hP [2] rfl rfl hl.1 rfl (Nat.le_of_ble_eq_true rfl) dX4_softerBy_100 ⟨Nat.zero_le _, Nat.zero_le _⟩ (fun r_19 hr_19 => ?_)
    refine lv_iconst (v := 1) hx hb dX4_softerBy_103 (by decide) ?_
    refine xc_Si (As := [.ref a2, .int r_19, .int 1]) (rest := [.int r_18]) ⟨hx, hb, hml, hown, hts⟩ (kX4_sumOf l D cI a2 u_16 (gg.n + 1) hI_u_16 r_19 1) (va_cwS 3 hts gX4_softerBy_X4_sumOf rfl rfl rfl hs_X4_sumOf ⟨Nat.le_of_ble_eq_true rfl, Nat.le_of_ble_eq_true rfl⟩) hK hP [2] rfl rfl hl.1 rfl (Nat.le_of_ble_eq_true rfl) dX4_softerBy_104 ⟨Nat.zero_le _, Nat.zero_le _⟩ (fun r_20 hr_20 => ?_)
    refine lv_isub hx hb dX4_softerBy_107 ?_
    exact hret 108 _ (r_18 - r_20) u_16 _ _ dX4_softerBy_108 (by first | (exfalso; omega) | simp [sfV, sfQ, ad1, c_2, c_3, hl_9, hr_16, hr_17, hr_18, hr_19, hr_20, hu_9, hu_16]) hP hD hS
  refine lv_aload_n hx hb dX4_softerBy_17 rfl (lv_at hl 0 rfl) ?_
  refine va_get (D := D) (ci := 3) (v := .ref a2) (C := RX4) (T := TX4) (N := 13) hx hb hts hi_X4 hown hK.1 hP 0 rfl rfl 1 (by decide) hk_13 (fun _ h9 => h9) rfl dX4_softerBy_18 ?_
  refine lv_iconst (v := 4) hx hb dX4_softerBy_21 (by decide) ?_
  refine lv_iconst (v := 5) hx hb dX4_softerBy_22 (by decide) ?_
  refine lv_iload hx hb dX4_softerBy_23 (lv_at hl 5 rfl) ?_
  refine xw_Si (As := [.ref a2, .int 4, .int 5, .int p4]) (rest := []) (Wn := fun u => [(a0, .inr (3, [.ref a1, .ref a2, .ref a3, .ref a4, .int gg.hs, .ref a5, .ref a6, .ref a7, .int (nI gg.L), .int (nI gg.M), .int mm.pl, .ref a8, .int mm.sd])), (a1, .inl (cI, 49, .inl gg.r)), (a2, .inl (cI, 49, .inl u)), (a3, .inl (cI, 49, .inl gg.im)), (a4, .inl (cI, 49, .inl mm.ws)), (a5, .inl (cI, 96, .inl gg.lt)), (a6, .inl (cI, 16, .inl gg.rw)), (a7, .inl (cI, 7, .inl gg.rf)), (a8, .inl (cI, 3, .inl mm.nb))]) (Wr := [(a0, .inr (3, [.ref a1, .ref a2, .ref a3, .ref a4, .int gg.hs, .ref a5, .ref a6, .ref a7, .int (nI gg.L), .int (nI gg.M), .int mm.pl, .ref a8, .int mm.sd])), (a1, .inl (cI, 49, .inl gg.r)), (a3, .inl (cI, 49, .inl gg.im)), (a4, .inl (cI, 49, .inl mm.ws)), (a5, .inl (cI, 96, .inl gg.lt)), (a6, .inl (cI, 16, .inl gg.rw)), (a7, .inl (cI, 7, .inl gg.rf)), (a8, .inl (cI, 3, .inl mm.nb))]) ⟨hx, hb, hml, hown, hts⟩ (kX4_adds l D cI H.size a2 gg.r gg.n hI 4 5 p4) (va_cwS 4 hts gX4_softerBy_X4_adds rfl rfl rfl hs_X4_adds ⟨Nat.le_of_ble_eq_true rfl, Nat.le_of_ble_eq_true rfl⟩) hK hP hD hS hA [2] [0, 1, 3, 4, 5, 6, 7, 8] [0, 1, 8, 2, 3, 4, 5, 6, 7] rfl rfl (by decide) (by decide) (by decide) (by decide) (fun u => rfl) rfl hl.1 rfl (Nat.le_of_ble_eq_true rfl) dX4_softerBy_25 ⟨Nat.zero_le _, Nat.zero_le _⟩ (fun r_21 u_21 H locs hw_21 hP hD hS => ?_)
  refine lv_if_eq (tgt := 35) hx hb dX4_softerBy_28 (by decide) (fun c_22 => ?_) (fun c_22 => ?_)
  · skip
    obtain ⟨hl_21, hu_21⟩ : gg.n = 9 ∧ u_21 = gg.r := by
      rcases hw_21 with q | q
      · exact ⟨q.1, q.2.2⟩
      · exact absurd (q.2.1.symm.trans c_22) (by decide)
    have hI_u_21 : Inv gg.n u_21 := (by rw [hu_21]; exact hI)
    refine lv_iconst (v := 0) hx hb dX4_softerBy_35 (by decide) ?_
    refine lv_istore (lv' := [(8, .int 0), (0, .ref a0), (1, .int p0), (2, .int p1), (3, .int p2), (4, .int p3), (5, .int p4), (6, .int p5), (7, .int p6)]) hx hb dX4_softerBy_36 hl (by decide) rfl (fun ls hl => ?_)
    refine lv_iload hx hb dX4_softerBy_38 (lv_at hl 7 rfl) ?_
    refine lv_iconst (v := 1) hx hb dX4_softerBy_40 (by decide) ?_
    refine lv_icmp_ne (tgt := 61) hx hb dX4_softerBy_41 (by decide) (fun c_23 => ?_) (fun c_23 => ?_)
    · skip
      refine lv_iconst (v := 0) hx hb dX4_softerBy_61 (by decide) ?_
      refine lv_istore (lv' := [(9, .int 0), (8, .int 0), (0, .ref a0), (1, .int p0), (2, .int p1), (3, .int p2), (4, .int p3), (5, .int p4), (6, .int p5), (7, .int p6)]) hx hb dX4_softerBy_62 hl (by decide) rfl (fun ls hl => ?_)
      refine lv_aload_n hx hb dX4_softerBy_64 rfl (lv_at hl 2 rfl) ?_
      refine va_get (D := D) (ci := 3) (v := .ref a2) (C := RX4) (T := TX4) (N := 13) hx hb hts hi_X4 hown hK.1 hP 0 rfl rfl 1 (by decide) hk_13 (fun _ h9 => h9) rfl dX4_softerBy_65 ?_
      refine lv_iload hx hb dX4_softerBy_68 (lv_at hl 9 rfl) ?_
      refine xw_Si (As := [.ref a2, .int p6]) (rest := []) (Wn := fun u => [(a0, .inr (3, [.ref a1, .ref a2, .ref a3, .ref a4, .int gg.hs, .ref a5, .ref a6, .ref a7, .int (nI gg.L), .int (nI gg.M), .int mm.pl, .ref a8, .int mm.sd])), (a1, .inl (cI, 49, .inl gg.r)), (a2, .inl (cI, 49, .inl u)), (a3, .inl (cI, 49, .inl gg.im)), (a4, .inl (cI, 49, .inl mm.ws)), (a5, .inl (cI, 96, .inl gg.lt)), (a6, .inl (cI, 16, .inl gg.rw)), (a7, .inl (cI, 7, .inl gg.rf)), (a8, .inl (cI, 3, .inl mm.nb))]) (Wr := [(a0, .inr (3, [.ref a1, .ref a2, .ref a3, .ref a4, .int gg.hs, .ref a5, .ref a6, .ref a7, .int (nI gg.L), .int (nI gg.M), .int mm.pl, .ref a8, .int mm.sd])), (a1, .inl (cI, 49, .inl gg.r)), (a3, .inl (cI, 49, .inl gg.im)), (a4, .inl (cI, 49, .inl mm.ws)), (a5, .inl (cI, 96, .inl gg.lt)), (a6, .inl (cI, 16, .inl gg.rw)), (a7, .inl (cI, 7, .inl gg.rf)), (a8, .inl (cI, 3, .inl mm.nb))]) ⟨hx, hb, hml, hown, hts⟩ (kX4_daysOn l D cI H.size a2 u_21 gg.n hI_u_21 p6 t0 hp0 (by omega)) (va_cwS 2 hts gX4_softerBy_X4_daysOn rfl rfl rfl hs_X4_daysOn ⟨Nat.le_of_ble_eq_true rfl, Nat.le_of_ble_eq_true rfl⟩) hK hP hD hS hA [2] [0, 1, 3, 4, 5, 6, 7, 8] [0, 1, 8, 2, 3, 4, 5, 6, 7] rfl rfl (by decide) (by decide) (by decide) (by decide) (fun u => rfl) rfl hl.1 rfl (Nat.le_of_ble_eq_true rfl) dX4_softerBy_70 ⟨Nat.zero_le _, Nat.zero_le _⟩ (fun r_24 u_24 H locs hw_24 hP hD hS => ?_)
      obtain ⟨hr_24, hu_24⟩ := hw_24
      have hI_u_24 : Inv gg.n u_24 := (by rw [hu_24]; exact hI_u_21.idsR _)
      refine lv_istore (lv' := [(10, .int r_24), (9, .int 0), (8, .int 0), (0, .ref a0), (1, .int p0), (2, .int p1), (3, .int p2), (4, .int p3), (5, .int p4), (6, .int p5), (7, .int p6)]) hx hb dX4_softerBy_73 hl (by decide) rfl (fun ls hl => ?_)
      refine lv_aload_n hx hb dX4_softerBy_75 rfl (lv_at hl 3 rfl) ?_
      refine va_get (D := D) (ci := 3) (v := .ref a2) (C := RX4) (T := TX4) (N := 13) hx hb hts hi_X4 hown hK.1 hP 0 rfl rfl 1 (by decide) hk_13 (fun _ h9 => h9) rfl dX4_softerBy_76 ?_
      refine lv_aload_n hx hb dX4_softerBy_79 rfl (lv_at hl 3 rfl) ?_
      refine va_get (D := D) (ci := 3) (v := .ref a2) (C := RX4) (T := TX4) (N := 13) hx hb hts hi_X4 hown hK.1 hP 0 rfl rfl 1 (by decide) hk_13 (fun _ h9 => h9) rfl dX4_softerBy_80 ?_
      refine lv_iload_n hx hb dX4_softerBy_83 rfl (lv_at hl 4 rfl) ?_
      refine xc_Si (As := [.ref a2, .int p0]) (rest := [.ref a2]) ⟨hx, hb, hml, hown, hts⟩ (kX4_nestIn l D cI a2 u_24 gg.n hI_u_24 p0) (va_cwS 2 hts gX4_softerBy_X4_nestIn rfl rfl rfl hs_X4_nestIn ⟨Nat.le_of_ble_eq_true rfl, Nat.le_of_ble_eq_true rfl⟩) hK hP [2] rfl rfl hl.1 rfl (Nat.le_of_ble_eq_true rfl) dX4_softerBy_84 ⟨Nat.zero_le _, Nat.zero_le _⟩ (fun r_25 hr_25 => ?_)
      refine lv_iconst (v := 1) hx hb dX4_softerBy_87 (by decide) ?_
      refine xc_Si (As := [.ref a2, .int r_25, .int 1]) (rest := []) ⟨hx, hb, hml, hown, hts⟩ (kX4_sumOf l D cI a2 u_24 gg.n hI_u_24 r_25 1) (va_cwS 3 hts gX4_softerBy_X4_sumOf rfl rfl rfl hs_X4_sumOf ⟨Nat.le_of_ble_eq_true rfl, Nat.le_of_ble_eq_true rfl⟩) hK hP [2] rfl rfl hl.1 rfl (Nat.le_of_ble_eq_true rfl) dX4_softerBy_88 ⟨Nat.zero_le _, Nat.zero_le _⟩ (fun r_26 hr_26 => ?_)
      refine lv_aload_n hx hb dX4_softerBy_91 rfl (lv_at hl 3 rfl) ?_
      refine va_get (D := D) (ci := 3) (v := .ref a2) (C := RX4) (T := TX4) (N := 13) hx hb hts hi_X4 hown hK.1 hP 0 rfl rfl 1 (by decide) hk_13 (fun _ h9 => h9) rfl dX4_softerBy_92 ?_
      refine lv_aload_n hx hb dX4_softerBy_95 rfl (lv_at hl 3 rfl) ?_
      refine va_get (D := D) (ci := 3) (v := .ref a2) (C := RX4) (T := TX4) (N := 13) hx hb hts hi_X4 hown hK.1 hP 0 rfl rfl 1 (by decide) hk_13 (fun _ h9 => h9) rfl dX4_softerBy_96 ?_
      refine lv_iload_n hx hb dX4_softerBy_99 rfl (lv_at hl 5 rfl) ?_
      refine xc_Si (As := [.ref a2, .int p1]) (rest := [.ref a2, .int r_26]) ⟨hx, hb, hml, hown, hts⟩ (kX4_nestIn l D cI a2 u_24 gg.n hI_u_24 p1) (va_cwS 2 hts gX4_softerBy_X4_nestIn rfl rfl rfl hs_X4_nestIn ⟨Nat.le_of_ble_eq_true rfl, Nat.le_of_ble_eq_true rfl⟩) hK hP [2] rfl rfl hl.1 rfl (Nat.le_of_ble_eq_true rfl) dX4_softerBy_100 ⟨Nat.zero_le _, Nat.zero_le _⟩ (fun r_27 hr_27 => ?_)
      refine lv_iconst (v := 1) hx hb dX4_softerBy_103 (by decide) ?_
      refine xc_Si (As := [.ref a2, .int r_27, .int 1]) (rest := [.int r_26]) ⟨hx, hb, hml, hown, hts⟩ (kX4_sumOf l D cI a2 u_24 gg.n hI_u_24 r_27 1) (va_cwS 3 hts gX4_softerBy_X4_sumOf rfl rfl rfl hs_X4_sumOf ⟨Nat.le_of_ble_eq_true rfl, Nat.le_of_ble_eq_true rfl⟩) hK hP [2] rfl rfl hl.1 rfl (Nat.le_of_ble_eq_true rfl) dX4_softerBy_104 ⟨Nat.zero_le _, Nat.zero_le _⟩ (fun r_28 hr_28 => ?_)
      refine lv_isub hx hb dX4_softerBy_107 ?_
      exact hret 108 _ (r_26 - r_28) u_24 _ _ dX4_softerBy_108 (by first | (exfalso; omega) | simp [sfV, sfQ, ad1, c_2, c_23, hl_21, hr_24, hr_25, hr_26, hr_27, hr_28, hu_21, hu_24]) hP hD hS
    refine lv_aload_n hx hb dX4_softerBy_44 rfl (lv_at hl 1 rfl) ?_
    refine va_get (D := D) (ci := 3) (v := .ref a2) (C := RX4) (T := TX4) (N := 13) hx hb hts hi_X4 hown hK.1 hP 0 rfl rfl 1 (by decide) hk_13 (fun _ h9 => h9) rfl dX4_softerBy_45 ?_
    refine lv_iconst (v := 4) hx hb dX4_softerBy_48 (by decide) ?_
    refine lv_iconst (v := 5) hx hb dX4_softerBy_49 (by decide) ?_
    refine lv_iload_n hx hb dX4_softerBy_50 rfl (lv_at hl 4 rfl) ?_
    refine xw_Si (As := [.ref a2, .int 4, .int 5, .int p2]) (rest := []) (Wn := fun u => [(a0, .inr (3, [.ref a1, .ref a2, .ref a3, .ref a4, .int gg.hs, .ref a5, .ref a6, .ref a7, .int (nI gg.L), .int (nI gg.M), .int mm.pl, .ref a8, .int mm.sd])), (a1, .inl (cI, 49, .inl gg.r)), (a2, .inl (cI, 49, .inl u)), (a3, .inl (cI, 49, .inl gg.im)), (a4, .inl (cI, 49, .inl mm.ws)), (a5, .inl (cI, 96, .inl gg.lt)), (a6, .inl (cI, 16, .inl gg.rw)), (a7, .inl (cI, 7, .inl gg.rf)), (a8, .inl (cI, 3, .inl mm.nb))]) (Wr := [(a0, .inr (3, [.ref a1, .ref a2, .ref a3, .ref a4, .int gg.hs, .ref a5, .ref a6, .ref a7, .int (nI gg.L), .int (nI gg.M), .int mm.pl, .ref a8, .int mm.sd])), (a1, .inl (cI, 49, .inl gg.r)), (a3, .inl (cI, 49, .inl gg.im)), (a4, .inl (cI, 49, .inl mm.ws)), (a5, .inl (cI, 96, .inl gg.lt)), (a6, .inl (cI, 16, .inl gg.rw)), (a7, .inl (cI, 7, .inl gg.rf)), (a8, .inl (cI, 3, .inl mm.nb))]) ⟨hx, hb, hml, hown, hts⟩ (kX4_adds l D cI H.size a2 u_21 gg.n hI_u_21 4 5 p2) (va_cwS 4 hts gX4_softerBy_X4_adds rfl rfl rfl hs_X4_adds ⟨Nat.le_of_ble_eq_true rfl, Nat.le_of_ble_eq_true rfl⟩) hK hP hD hS hA [2] [0, 1, 3, 4, 5, 6, 7, 8] [0, 1, 8, 2, 3, 4, 5, 6, 7] rfl rfl (by decide) (by decide) (by decide) (by decide) (fun u => rfl) rfl hl.1 rfl (Nat.le_of_ble_eq_true rfl) dX4_softerBy_51 ⟨Nat.zero_le _, Nat.zero_le _⟩ (fun r_29 u_29 H locs hw_29 hP hD hS => ?_)
    refine lv_if_eq (tgt := 61) hx hb dX4_softerBy_54 (by decide) (fun c_30 => ?_) (fun c_30 => ?_)
    · skip
      obtain ⟨hl_29, hu_29⟩ : gg.n = 9 ∧ u_29 = u_21 := by
        rcases hw_29 with q | q
        · exact ⟨q.1, q.2.2⟩
        · exact absurd (q.2.1.symm.trans c_30) (by decide)
      have hI_u_29 : Inv gg.n u_29 := (by rw [hu_29]; exact hI_u_21)
      refine lv_iconst (v := 0) hx hb dX4_softerBy_61 (by decide) ?_
      refine lv_istore (lv' := [(9, .int 0), (8, .int 0), (0, .ref a0), (1, .int p0), (2, .int p1), (3, .int p2), (4, .int p3), (5, .int p4), (6, .int p5), (7, .int p6)]) hx hb dX4_softerBy_62 hl (by decide) rfl (fun ls hl => ?_)
      refine lv_aload_n hx hb dX4_softerBy_64 rfl (lv_at hl 2 rfl) ?_
      refine va_get (D := D) (ci := 3) (v := .ref a2) (C := RX4) (T := TX4) (N := 13) hx hb hts hi_X4 hown hK.1 hP 0 rfl rfl 1 (by decide) hk_13 (fun _ h9 => h9) rfl dX4_softerBy_65 ?_
      refine lv_iload hx hb dX4_softerBy_68 (lv_at hl 9 rfl) ?_
      refine xw_Si (As := [.ref a2, .int p6]) (rest := []) (Wn := fun u => [(a0, .inr (3, [.ref a1, .ref a2, .ref a3, .ref a4, .int gg.hs, .ref a5, .ref a6, .ref a7, .int (nI gg.L), .int (nI gg.M), .int mm.pl, .ref a8, .int mm.sd])), (a1, .inl (cI, 49, .inl gg.r)), (a2, .inl (cI, 49, .inl u)), (a3, .inl (cI, 49, .inl gg.im)), (a4, .inl (cI, 49, .inl mm.ws)), (a5, .inl (cI, 96, .inl gg.lt)), (a6, .inl (cI, 16, .inl gg.rw)), (a7, .inl (cI, 7, .inl gg.rf)), (a8, .inl (cI, 3, .inl mm.nb))]) (Wr := [(a0, .inr (3, [.ref a1, .ref a2, .ref a3, .ref a4, .int gg.hs, .ref a5, .ref a6, .ref a7, .int (nI gg.L), .int (nI gg.M), .int mm.pl, .ref a8, .int mm.sd])), (a1, .inl (cI, 49, .inl gg.r)), (a3, .inl (cI, 49, .inl gg.im)), (a4, .inl (cI, 49, .inl mm.ws)), (a5, .inl (cI, 96, .inl gg.lt)), (a6, .inl (cI, 16, .inl gg.rw)), (a7, .inl (cI, 7, .inl gg.rf)), (a8, .inl (cI, 3, .inl mm.nb))]) ⟨hx, hb, hml, hown, hts⟩ (kX4_daysOn l D cI H.size a2 u_29 gg.n hI_u_29 p6 t0 hp0 (by omega)) (va_cwS 2 hts gX4_softerBy_X4_daysOn rfl rfl rfl hs_X4_daysOn ⟨Nat.le_of_ble_eq_true rfl, Nat.le_of_ble_eq_true rfl⟩) hK hP hD hS hA [2] [0, 1, 3, 4, 5, 6, 7, 8] [0, 1, 8, 2, 3, 4, 5, 6, 7] rfl rfl (by decide) (by decide) (by decide) (by decide) (fun u => rfl) rfl hl.1 rfl (Nat.le_of_ble_eq_true rfl) dX4_softerBy_70 ⟨Nat.zero_le _, Nat.zero_le _⟩ (fun r_31 u_31 H locs hw_31 hP hD hS => ?_)
      obtain ⟨hr_31, hu_31⟩ := hw_31
      have hI_u_31 : Inv gg.n u_31 := (by rw [hu_31]; exact hI_u_29.idsR _)
      refine lv_istore (lv' := [(10, .int r_31), (9, .int 0), (8, .int 0), (0, .ref a0), (1, .int p0), (2, .int p1), (3, .int p2), (4, .int p3), (5, .int p4), (6, .int p5), (7, .int p6)]) hx hb dX4_softerBy_73 hl (by decide) rfl (fun ls hl => ?_)
      refine lv_aload_n hx hb dX4_softerBy_75 rfl (lv_at hl 3 rfl) ?_
      refine va_get (D := D) (ci := 3) (v := .ref a2) (C := RX4) (T := TX4) (N := 13) hx hb hts hi_X4 hown hK.1 hP 0 rfl rfl 1 (by decide) hk_13 (fun _ h9 => h9) rfl dX4_softerBy_76 ?_
      refine lv_aload_n hx hb dX4_softerBy_79 rfl (lv_at hl 3 rfl) ?_
      refine va_get (D := D) (ci := 3) (v := .ref a2) (C := RX4) (T := TX4) (N := 13) hx hb hts hi_X4 hown hK.1 hP 0 rfl rfl 1 (by decide) hk_13 (fun _ h9 => h9) rfl dX4_softerBy_80 ?_
      refine lv_iload_n hx hb dX4_softerBy_83 rfl (lv_at hl 4 rfl) ?_
      refine xc_Si (As := [.ref a2, .int p0]) (rest := [.ref a2]) ⟨hx, hb, hml, hown, hts⟩ (kX4_nestIn l D cI a2 u_31 gg.n hI_u_31 p0) (va_cwS 2 hts gX4_softerBy_X4_nestIn rfl rfl rfl hs_X4_nestIn ⟨Nat.le_of_ble_eq_true rfl, Nat.le_of_ble_eq_true rfl⟩) hK hP [2] rfl rfl hl.1 rfl (Nat.le_of_ble_eq_true rfl) dX4_softerBy_84 ⟨Nat.zero_le _, Nat.zero_le _⟩ (fun r_32 hr_32 => ?_)
      refine lv_iconst (v := 1) hx hb dX4_softerBy_87 (by decide) ?_
      refine xc_Si (As := [.ref a2, .int r_32, .int 1]) (rest := []) ⟨hx, hb, hml, hown, hts⟩ (kX4_sumOf l D cI a2 u_31 gg.n hI_u_31 r_32 1) (va_cwS 3 hts gX4_softerBy_X4_sumOf rfl rfl rfl hs_X4_sumOf ⟨Nat.le_of_ble_eq_true rfl, Nat.le_of_ble_eq_true rfl⟩) hK hP [2] rfl rfl hl.1 rfl (Nat.le_of_ble_eq_true rfl) dX4_softerBy_88 ⟨Nat.zero_le _, Nat.zero_le _⟩ (fun r_33 hr_33 => ?_)
      refine lv_aload_n hx hb dX4_softerBy_91 rfl (lv_at hl 3 rfl) ?_
      refine va_get (D := D) (ci := 3) (v := .ref a2) (C := RX4) (T := TX4) (N := 13) hx hb hts hi_X4 hown hK.1 hP 0 rfl rfl 1 (by decide) hk_13 (fun _ h9 => h9) rfl dX4_softerBy_92 ?_
      refine lv_aload_n hx hb dX4_softerBy_95 rfl (lv_at hl 3 rfl) ?_
      refine va_get (D := D) (ci := 3) (v := .ref a2) (C := RX4) (T := TX4) (N := 13) hx hb hts hi_X4 hown hK.1 hP 0 rfl rfl 1 (by decide) hk_13 (fun _ h9 => h9) rfl dX4_softerBy_96 ?_
      refine lv_iload_n hx hb dX4_softerBy_99 rfl (lv_at hl 5 rfl) ?_
      refine xc_Si (As := [.ref a2, .int p1]) (rest := [.ref a2, .int r_33]) ⟨hx, hb, hml, hown, hts⟩ (kX4_nestIn l D cI a2 u_31 gg.n hI_u_31 p1) (va_cwS 2 hts gX4_softerBy_X4_nestIn rfl rfl rfl hs_X4_nestIn ⟨Nat.le_of_ble_eq_true rfl, Nat.le_of_ble_eq_true rfl⟩) hK hP [2] rfl rfl hl.1 rfl (Nat.le_of_ble_eq_true rfl) dX4_softerBy_100 ⟨Nat.zero_le _, Nat.zero_le _⟩ (fun r_34 hr_34 => ?_)
      refine lv_iconst (v := 1) hx hb dX4_softerBy_103 (by decide) ?_
      refine xc_Si (As := [.ref a2, .int r_34, .int 1]) (rest := [.int r_33]) ⟨hx, hb, hml, hown, hts⟩ (kX4_sumOf l D cI a2 u_31 gg.n hI_u_31 r_34 1) (va_cwS 3 hts gX4_softerBy_X4_sumOf rfl rfl rfl hs_X4_sumOf ⟨Nat.le_of_ble_eq_true rfl, Nat.le_of_ble_eq_true rfl⟩) hK hP [2] rfl rfl hl.1 rfl (Nat.le_of_ble_eq_true rfl) dX4_softerBy_104 ⟨Nat.zero_le _, Nat.zero_le _⟩ (fun r_35 hr_35 => ?_)
      refine lv_isub hx hb dX4_softerBy_107 ?_
      exact hret 108 _ (r_33 - r_35) u_31 _ _ dX4_softerBy_108 (by first | (exfalso; omega) | simp [sfV, sfQ, ad1, c_2, c_23, hl_21, hl_29, hr_31, hr_32, hr_33, hr_34, hr_35, hu_21, hu_29, hu_31]) hP hD hS
    obtain ⟨hl_29, hv9_29, hu_29⟩ : gg.n < 9 ∧ r_29 = 1 ∧ u_29 = addR u_21 gg.n 4 5 p2 := by
      rcases hw_29 with q | q
      · exact absurd q.2.1 c_30
      · exact q
    have hI_u_29 : Inv (gg.n + 1) u_29 := (by rw [hu_29]; exact hI_u_21.iaddN hl_29 (k := 4) (f := 5) (by omega) (by omega) (okv_2 hwa4 hwa))
    refine lv_iconst (v := 1) hx hb dX4_softerBy_57 (by decide) ?_
    refine lv_goto (tgt := 62) hx hb dX4_softerBy_58 (by decide) ?_
    refine lv_istore (lv' := [(9, .int 1), (8, .int 0), (0, .ref a0), (1, .int p0), (2, .int p1), (3, .int p2), (4, .int p3), (5, .int p4), (6, .int p5), (7, .int p6)]) hx hb dX4_softerBy_62 hl (by decide) rfl (fun ls hl => ?_)
    refine lv_aload_n hx hb dX4_softerBy_64 rfl (lv_at hl 2 rfl) ?_
    refine va_get (D := D) (ci := 3) (v := .ref a2) (C := RX4) (T := TX4) (N := 13) hx hb hts hi_X4 hown hK.1 hP 0 rfl rfl 1 (by decide) hk_13 (fun _ h9 => h9) rfl dX4_softerBy_65 ?_
    refine lv_iload hx hb dX4_softerBy_68 (lv_at hl 9 rfl) ?_
    refine xw_Si (As := [.ref a2, .int p6]) (rest := []) (Wn := fun u => [(a0, .inr (3, [.ref a1, .ref a2, .ref a3, .ref a4, .int gg.hs, .ref a5, .ref a6, .ref a7, .int (nI gg.L), .int (nI gg.M), .int mm.pl, .ref a8, .int mm.sd])), (a1, .inl (cI, 49, .inl gg.r)), (a2, .inl (cI, 49, .inl u)), (a3, .inl (cI, 49, .inl gg.im)), (a4, .inl (cI, 49, .inl mm.ws)), (a5, .inl (cI, 96, .inl gg.lt)), (a6, .inl (cI, 16, .inl gg.rw)), (a7, .inl (cI, 7, .inl gg.rf)), (a8, .inl (cI, 3, .inl mm.nb))]) (Wr := [(a0, .inr (3, [.ref a1, .ref a2, .ref a3, .ref a4, .int gg.hs, .ref a5, .ref a6, .ref a7, .int (nI gg.L), .int (nI gg.M), .int mm.pl, .ref a8, .int mm.sd])), (a1, .inl (cI, 49, .inl gg.r)), (a3, .inl (cI, 49, .inl gg.im)), (a4, .inl (cI, 49, .inl mm.ws)), (a5, .inl (cI, 96, .inl gg.lt)), (a6, .inl (cI, 16, .inl gg.rw)), (a7, .inl (cI, 7, .inl gg.rf)), (a8, .inl (cI, 3, .inl mm.nb))]) ⟨hx, hb, hml, hown, hts⟩ (kX4_daysOn l D cI H.size a2 u_29 (gg.n + 1) hI_u_29 p6 t0 hp0 (by omega)) (va_cwS 2 hts gX4_softerBy_X4_daysOn rfl rfl rfl hs_X4_daysOn ⟨Nat.le_of_ble_eq_true rfl, Nat.le_of_ble_eq_true rfl⟩) hK hP hD hS hA [2] [0, 1, 3, 4, 5, 6, 7, 8] [0, 1, 8, 2, 3, 4, 5, 6, 7] rfl rfl (by decide) (by decide) (by decide) (by decide) (fun u => rfl) rfl hl.1 rfl (Nat.le_of_ble_eq_true rfl) dX4_softerBy_70 ⟨Nat.zero_le _, Nat.zero_le _⟩ (fun r_36 u_36 H locs hw_36 hP hD hS => ?_)
    obtain ⟨hr_36, hu_36⟩ := hw_36
    have hI_u_36 : Inv (gg.n + 1) u_36 := (by rw [hu_36]; exact hI_u_29.idsR _)
    refine lv_istore (lv' := [(10, .int r_36), (9, .int 1), (8, .int 0), (0, .ref a0), (1, .int p0), (2, .int p1), (3, .int p2), (4, .int p3), (5, .int p4), (6, .int p5), (7, .int p6)]) hx hb dX4_softerBy_73 hl (by decide) rfl (fun ls hl => ?_)
    refine lv_aload_n hx hb dX4_softerBy_75 rfl (lv_at hl 3 rfl) ?_
    refine va_get (D := D) (ci := 3) (v := .ref a2) (C := RX4) (T := TX4) (N := 13) hx hb hts hi_X4 hown hK.1 hP 0 rfl rfl 1 (by decide) hk_13 (fun _ h9 => h9) rfl dX4_softerBy_76 ?_
    refine lv_aload_n hx hb dX4_softerBy_79 rfl (lv_at hl 3 rfl) ?_
    refine va_get (D := D) (ci := 3) (v := .ref a2) (C := RX4) (T := TX4) (N := 13) hx hb hts hi_X4 hown hK.1 hP 0 rfl rfl 1 (by decide) hk_13 (fun _ h9 => h9) rfl dX4_softerBy_80 ?_
    refine lv_iload_n hx hb dX4_softerBy_83 rfl (lv_at hl 4 rfl) ?_
    refine xc_Si (As := [.ref a2, .int p0]) (rest := [.ref a2]) ⟨hx, hb, hml, hown, hts⟩ (kX4_nestIn l D cI a2 u_36 (gg.n + 1) hI_u_36 p0) (va_cwS 2 hts gX4_softerBy_X4_nestIn rfl rfl rfl hs_X4_nestIn ⟨Nat.le_of_ble_eq_true rfl, Nat.le_of_ble_eq_true rfl⟩) hK hP [2] rfl rfl hl.1 rfl (Nat.le_of_ble_eq_true rfl) dX4_softerBy_84 ⟨Nat.zero_le _, Nat.zero_le _⟩ (fun r_37 hr_37 => ?_)
    refine lv_iconst (v := 1) hx hb dX4_softerBy_87 (by decide) ?_
    refine xc_Si (As := [.ref a2, .int r_37, .int 1]) (rest := []) ⟨hx, hb, hml, hown, hts⟩ (kX4_sumOf l D cI a2 u_36 (gg.n + 1) hI_u_36 r_37 1) (va_cwS 3 hts gX4_softerBy_X4_sumOf rfl rfl rfl hs_X4_sumOf ⟨Nat.le_of_ble_eq_true rfl, Nat.le_of_ble_eq_true rfl⟩) hK hP [2] rfl rfl hl.1 rfl (Nat.le_of_ble_eq_true rfl) dX4_softerBy_88 ⟨Nat.zero_le _, Nat.zero_le _⟩ (fun r_38 hr_38 => ?_)
    refine lv_aload_n hx hb dX4_softerBy_91 rfl (lv_at hl 3 rfl) ?_
    refine va_get (D := D) (ci := 3) (v := .ref a2) (C := RX4) (T := TX4) (N := 13) hx hb hts hi_X4 hown hK.1 hP 0 rfl rfl 1 (by decide) hk_13 (fun _ h9 => h9) rfl dX4_softerBy_92 ?_
    refine lv_aload_n hx hb dX4_softerBy_95 rfl (lv_at hl 3 rfl) ?_
    refine va_get (D := D) (ci := 3) (v := .ref a2) (C := RX4) (T := TX4) (N := 13) hx hb hts hi_X4 hown hK.1 hP 0 rfl rfl 1 (by decide) hk_13 (fun _ h9 => h9) rfl dX4_softerBy_96 ?_
    refine lv_iload_n hx hb dX4_softerBy_99 rfl (lv_at hl 5 rfl) ?_
    refine xc_Si (As := [.ref a2, .int p1]) (rest := [.ref a2, .int r_38]) ⟨hx, hb, hml, hown, hts⟩ (kX4_nestIn l D cI a2 u_36 (gg.n + 1) hI_u_36 p1) (va_cwS 2 hts gX4_softerBy_X4_nestIn rfl rfl rfl hs_X4_nestIn ⟨Nat.le_of_ble_eq_true rfl, Nat.le_of_ble_eq_true rfl⟩) hK hP [2] rfl rfl hl.1 rfl (Nat.le_of_ble_eq_true rfl) dX4_softerBy_100 ⟨Nat.zero_le _, Nat.zero_le _⟩ (fun r_39 hr_39 => ?_)
    refine lv_iconst (v := 1) hx hb dX4_softerBy_103 (by decide) ?_
    refine xc_Si (As := [.ref a2, .int r_39, .int 1]) (rest := [.int r_38]) ⟨hx, hb, hml, hown, hts⟩ (kX4_sumOf l D cI a2 u_36 (gg.n + 1) hI_u_36 r_39 1) (va_cwS 3 hts gX4_softerBy_X4_sumOf rfl rfl rfl hs_X4_sumOf ⟨Nat.le_of_ble_eq_true rfl, Nat.le_of_ble_eq_true rfl⟩) hK hP [2] rfl rfl hl.1 rfl (Nat.le_of_ble_eq_true rfl) dX4_softerBy_104 ⟨Nat.zero_le _, Nat.zero_le _⟩ (fun r_40 hr_40 => ?_)
    refine lv_isub hx hb dX4_softerBy_107 ?_
    exact hret 108 _ (r_38 - r_40) u_36 _ _ dX4_softerBy_108 (by first | (exfalso; omega) | simp [sfV, sfQ, ad1, c_2, c_23, hl_21, hl_29, hr_36, hr_37, hr_38, hr_39, hr_40, hu_21, hu_29, hu_36]) hP hD hS
  obtain ⟨hl_21, hv9_21, hu_21⟩ : gg.n < 9 ∧ r_21 = 1 ∧ u_21 = addR gg.r gg.n 4 5 p4 := by
    rcases hw_21 with q | q
    · exact absurd q.2.1 c_22
    · exact q
  have hI_u_21 : Inv (gg.n + 1) u_21 := (by rw [hu_21]; exact hI.iaddN hl_21 (k := 4) (f := 5) (by omega) (by omega) (okv_2 hwb4 hwb))
  refine lv_iconst (v := 1) hx hb dX4_softerBy_31 (by decide) ?_
  refine lv_goto (tgt := 36) hx hb dX4_softerBy_32 (by decide) ?_
  refine lv_istore (lv' := [(8, .int 1), (0, .ref a0), (1, .int p0), (2, .int p1), (3, .int p2), (4, .int p3), (5, .int p4), (6, .int p5), (7, .int p6)]) hx hb dX4_softerBy_36 hl (by decide) rfl (fun ls hl => ?_)
  refine lv_iload hx hb dX4_softerBy_38 (lv_at hl 7 rfl) ?_
  refine lv_iconst (v := 1) hx hb dX4_softerBy_40 (by decide) ?_
  refine lv_icmp_ne (tgt := 61) hx hb dX4_softerBy_41 (by decide) (fun c_41 => ?_) (fun c_41 => ?_)
  · skip
    refine lv_iconst (v := 0) hx hb dX4_softerBy_61 (by decide) ?_
    refine lv_istore (lv' := [(9, .int 0), (8, .int 1), (0, .ref a0), (1, .int p0), (2, .int p1), (3, .int p2), (4, .int p3), (5, .int p4), (6, .int p5), (7, .int p6)]) hx hb dX4_softerBy_62 hl (by decide) rfl (fun ls hl => ?_)
    refine lv_aload_n hx hb dX4_softerBy_64 rfl (lv_at hl 2 rfl) ?_
    refine va_get (D := D) (ci := 3) (v := .ref a2) (C := RX4) (T := TX4) (N := 13) hx hb hts hi_X4 hown hK.1 hP 0 rfl rfl 1 (by decide) hk_13 (fun _ h9 => h9) rfl dX4_softerBy_65 ?_
    refine lv_iload hx hb dX4_softerBy_68 (lv_at hl 9 rfl) ?_
    refine xw_Si (As := [.ref a2, .int p6]) (rest := []) (Wn := fun u => [(a0, .inr (3, [.ref a1, .ref a2, .ref a3, .ref a4, .int gg.hs, .ref a5, .ref a6, .ref a7, .int (nI gg.L), .int (nI gg.M), .int mm.pl, .ref a8, .int mm.sd])), (a1, .inl (cI, 49, .inl gg.r)), (a2, .inl (cI, 49, .inl u)), (a3, .inl (cI, 49, .inl gg.im)), (a4, .inl (cI, 49, .inl mm.ws)), (a5, .inl (cI, 96, .inl gg.lt)), (a6, .inl (cI, 16, .inl gg.rw)), (a7, .inl (cI, 7, .inl gg.rf)), (a8, .inl (cI, 3, .inl mm.nb))]) (Wr := [(a0, .inr (3, [.ref a1, .ref a2, .ref a3, .ref a4, .int gg.hs, .ref a5, .ref a6, .ref a7, .int (nI gg.L), .int (nI gg.M), .int mm.pl, .ref a8, .int mm.sd])), (a1, .inl (cI, 49, .inl gg.r)), (a3, .inl (cI, 49, .inl gg.im)), (a4, .inl (cI, 49, .inl mm.ws)), (a5, .inl (cI, 96, .inl gg.lt)), (a6, .inl (cI, 16, .inl gg.rw)), (a7, .inl (cI, 7, .inl gg.rf)), (a8, .inl (cI, 3, .inl mm.nb))]) ⟨hx, hb, hml, hown, hts⟩ (kX4_daysOn l D cI H.size a2 u_21 (gg.n + 1) hI_u_21 p6 t0 hp0 (by omega)) (va_cwS 2 hts gX4_softerBy_X4_daysOn rfl rfl rfl hs_X4_daysOn ⟨Nat.le_of_ble_eq_true rfl, Nat.le_of_ble_eq_true rfl⟩) hK hP hD hS hA [2] [0, 1, 3, 4, 5, 6, 7, 8] [0, 1, 8, 2, 3, 4, 5, 6, 7] rfl rfl (by decide) (by decide) (by decide) (by decide) (fun u => rfl) rfl hl.1 rfl (Nat.le_of_ble_eq_true rfl) dX4_softerBy_70 ⟨Nat.zero_le _, Nat.zero_le _⟩ (fun r_42 u_42 H locs hw_42 hP hD hS => ?_)
    obtain ⟨hr_42, hu_42⟩ := hw_42
    have hI_u_42 : Inv (gg.n + 1) u_42 := (by rw [hu_42]; exact hI_u_21.idsR _)
    refine lv_istore (lv' := [(10, .int r_42), (9, .int 0), (8, .int 1), (0, .ref a0), (1, .int p0), (2, .int p1), (3, .int p2), (4, .int p3), (5, .int p4), (6, .int p5), (7, .int p6)]) hx hb dX4_softerBy_73 hl (by decide) rfl (fun ls hl => ?_)
    refine lv_aload_n hx hb dX4_softerBy_75 rfl (lv_at hl 3 rfl) ?_
    refine va_get (D := D) (ci := 3) (v := .ref a2) (C := RX4) (T := TX4) (N := 13) hx hb hts hi_X4 hown hK.1 hP 0 rfl rfl 1 (by decide) hk_13 (fun _ h9 => h9) rfl dX4_softerBy_76 ?_
    refine lv_aload_n hx hb dX4_softerBy_79 rfl (lv_at hl 3 rfl) ?_
    refine va_get (D := D) (ci := 3) (v := .ref a2) (C := RX4) (T := TX4) (N := 13) hx hb hts hi_X4 hown hK.1 hP 0 rfl rfl 1 (by decide) hk_13 (fun _ h9 => h9) rfl dX4_softerBy_80 ?_
    refine lv_iload_n hx hb dX4_softerBy_83 rfl (lv_at hl 4 rfl) ?_
    refine xc_Si (As := [.ref a2, .int p0]) (rest := [.ref a2]) ⟨hx, hb, hml, hown, hts⟩ (kX4_nestIn l D cI a2 u_42 (gg.n + 1) hI_u_42 p0) (va_cwS 2 hts gX4_softerBy_X4_nestIn rfl rfl rfl hs_X4_nestIn ⟨Nat.le_of_ble_eq_true rfl, Nat.le_of_ble_eq_true rfl⟩) hK hP [2] rfl rfl hl.1 rfl (Nat.le_of_ble_eq_true rfl) dX4_softerBy_84 ⟨Nat.zero_le _, Nat.zero_le _⟩ (fun r_43 hr_43 => ?_)
    refine lv_iconst (v := 1) hx hb dX4_softerBy_87 (by decide) ?_
    refine xc_Si (As := [.ref a2, .int r_43, .int 1]) (rest := []) ⟨hx, hb, hml, hown, hts⟩ (kX4_sumOf l D cI a2 u_42 (gg.n + 1) hI_u_42 r_43 1) (va_cwS 3 hts gX4_softerBy_X4_sumOf rfl rfl rfl hs_X4_sumOf ⟨Nat.le_of_ble_eq_true rfl, Nat.le_of_ble_eq_true rfl⟩) hK hP [2] rfl rfl hl.1 rfl (Nat.le_of_ble_eq_true rfl) dX4_softerBy_88 ⟨Nat.zero_le _, Nat.zero_le _⟩ (fun r_44 hr_44 => ?_)
    refine lv_aload_n hx hb dX4_softerBy_91 rfl (lv_at hl 3 rfl) ?_
    refine va_get (D := D) (ci := 3) (v := .ref a2) (C := RX4) (T := TX4) (N := 13) hx hb hts hi_X4 hown hK.1 hP 0 rfl rfl 1 (by decide) hk_13 (fun _ h9 => h9) rfl dX4_softerBy_92 ?_
    refine lv_aload_n hx hb dX4_softerBy_95 rfl (lv_at hl 3 rfl) ?_
    refine va_get (D := D) (ci := 3) (v := .ref a2) (C := RX4) (T := TX4) (N := 13) hx hb hts hi_X4 hown hK.1 hP 0 rfl rfl 1 (by decide) hk_13 (fun _ h9 => h9) rfl dX4_softerBy_96 ?_
    refine lv_iload_n hx hb dX4_softerBy_99 rfl (lv_at hl 5 rfl) ?_
    refine xc_Si (As := [.ref a2, .int p1]) (rest := [.ref a2, .int r_44]) ⟨hx, hb, hml, hown, hts⟩ (kX4_nestIn l D cI a2 u_42 (gg.n + 1) hI_u_42 p1) (va_cwS 2 hts gX4_softerBy_X4_nestIn rfl rfl rfl hs_X4_nestIn ⟨Nat.le_of_ble_eq_true rfl, Nat.le_of_ble_eq_true rfl⟩) hK hP [2] rfl rfl hl.1 rfl (Nat.le_of_ble_eq_true rfl) dX4_softerBy_100 ⟨Nat.zero_le _, Nat.zero_le _⟩ (fun r_45 hr_45 => ?_)
    refine lv_iconst (v := 1) hx hb dX4_softerBy_103 (by decide) ?_
    refine xc_Si (As := [.ref a2, .int r_45, .int 1]) (rest := [.int r_44]) ⟨hx, hb, hml, hown, hts⟩ (kX4_sumOf l D cI a2 u_42 (gg.n + 1) hI_u_42 r_45 1) (va_cwS 3 hts gX4_softerBy_X4_sumOf rfl rfl rfl hs_X4_sumOf ⟨Nat.le_of_ble_eq_true rfl, Nat.le_of_ble_eq_true rfl⟩) hK hP [2] rfl rfl hl.1 rfl (Nat.le_of_ble_eq_true rfl) dX4_softerBy_104 ⟨Nat.zero_le _, Nat.zero_le _⟩ (fun r_46 hr_46 => ?_)
    refine lv_isub hx hb dX4_softerBy_107 ?_
    exact hret 108 _ (r_44 - r_46) u_42 _ _ dX4_softerBy_108 (by first | (exfalso; omega) | simp [sfV, sfQ, ad1, c_2, c_41, hl_21, hr_42, hr_43, hr_44, hr_45, hr_46, hu_21, hu_42]) hP hD hS
  refine lv_aload_n hx hb dX4_softerBy_44 rfl (lv_at hl 1 rfl) ?_
  refine va_get (D := D) (ci := 3) (v := .ref a2) (C := RX4) (T := TX4) (N := 13) hx hb hts hi_X4 hown hK.1 hP 0 rfl rfl 1 (by decide) hk_13 (fun _ h9 => h9) rfl dX4_softerBy_45 ?_
  refine lv_iconst (v := 4) hx hb dX4_softerBy_48 (by decide) ?_
  refine lv_iconst (v := 5) hx hb dX4_softerBy_49 (by decide) ?_
  refine lv_iload_n hx hb dX4_softerBy_50 rfl (lv_at hl 4 rfl) ?_
  refine xw_Si (As := [.ref a2, .int 4, .int 5, .int p2]) (rest := []) (Wn := fun u => [(a0, .inr (3, [.ref a1, .ref a2, .ref a3, .ref a4, .int gg.hs, .ref a5, .ref a6, .ref a7, .int (nI gg.L), .int (nI gg.M), .int mm.pl, .ref a8, .int mm.sd])), (a1, .inl (cI, 49, .inl gg.r)), (a2, .inl (cI, 49, .inl u)), (a3, .inl (cI, 49, .inl gg.im)), (a4, .inl (cI, 49, .inl mm.ws)), (a5, .inl (cI, 96, .inl gg.lt)), (a6, .inl (cI, 16, .inl gg.rw)), (a7, .inl (cI, 7, .inl gg.rf)), (a8, .inl (cI, 3, .inl mm.nb))]) (Wr := [(a0, .inr (3, [.ref a1, .ref a2, .ref a3, .ref a4, .int gg.hs, .ref a5, .ref a6, .ref a7, .int (nI gg.L), .int (nI gg.M), .int mm.pl, .ref a8, .int mm.sd])), (a1, .inl (cI, 49, .inl gg.r)), (a3, .inl (cI, 49, .inl gg.im)), (a4, .inl (cI, 49, .inl mm.ws)), (a5, .inl (cI, 96, .inl gg.lt)), (a6, .inl (cI, 16, .inl gg.rw)), (a7, .inl (cI, 7, .inl gg.rf)), (a8, .inl (cI, 3, .inl mm.nb))]) ⟨hx, hb, hml, hown, hts⟩ (kX4_adds l D cI H.size a2 u_21 (gg.n + 1) hI_u_21 4 5 p2) (va_cwS 4 hts gX4_softerBy_X4_adds rfl rfl rfl hs_X4_adds ⟨Nat.le_of_ble_eq_true rfl, Nat.le_of_ble_eq_true rfl⟩) hK hP hD hS hA [2] [0, 1, 3, 4, 5, 6, 7, 8] [0, 1, 8, 2, 3, 4, 5, 6, 7] rfl rfl (by decide) (by decide) (by decide) (by decide) (fun u => rfl) rfl hl.1 rfl (Nat.le_of_ble_eq_true rfl) dX4_softerBy_51 ⟨Nat.zero_le _, Nat.zero_le _⟩ (fun r_47 u_47 H locs hw_47 hP hD hS => ?_)
  refine lv_if_eq (tgt := 61) hx hb dX4_softerBy_54 (by decide) (fun c_48 => ?_) (fun c_48 => ?_)
  · skip
    obtain ⟨hl_47, hu_47⟩ : (gg.n + 1) = 9 ∧ u_47 = u_21 := by
      rcases hw_47 with q | q
      · exact ⟨q.1, q.2.2⟩
      · exact absurd (q.2.1.symm.trans c_48) (by decide)
    have hI_u_47 : Inv (gg.n + 1) u_47 := (by rw [hu_47]; exact hI_u_21)
    refine lv_iconst (v := 0) hx hb dX4_softerBy_61 (by decide) ?_
    refine lv_istore (lv' := [(9, .int 0), (8, .int 1), (0, .ref a0), (1, .int p0), (2, .int p1), (3, .int p2), (4, .int p3), (5, .int p4), (6, .int p5), (7, .int p6)]) hx hb dX4_softerBy_62 hl (by decide) rfl (fun ls hl => ?_)
    refine lv_aload_n hx hb dX4_softerBy_64 rfl (lv_at hl 2 rfl) ?_
    refine va_get (D := D) (ci := 3) (v := .ref a2) (C := RX4) (T := TX4) (N := 13) hx hb hts hi_X4 hown hK.1 hP 0 rfl rfl 1 (by decide) hk_13 (fun _ h9 => h9) rfl dX4_softerBy_65 ?_
    refine lv_iload hx hb dX4_softerBy_68 (lv_at hl 9 rfl) ?_
    refine xw_Si (As := [.ref a2, .int p6]) (rest := []) (Wn := fun u => [(a0, .inr (3, [.ref a1, .ref a2, .ref a3, .ref a4, .int gg.hs, .ref a5, .ref a6, .ref a7, .int (nI gg.L), .int (nI gg.M), .int mm.pl, .ref a8, .int mm.sd])), (a1, .inl (cI, 49, .inl gg.r)), (a2, .inl (cI, 49, .inl u)), (a3, .inl (cI, 49, .inl gg.im)), (a4, .inl (cI, 49, .inl mm.ws)), (a5, .inl (cI, 96, .inl gg.lt)), (a6, .inl (cI, 16, .inl gg.rw)), (a7, .inl (cI, 7, .inl gg.rf)), (a8, .inl (cI, 3, .inl mm.nb))]) (Wr := [(a0, .inr (3, [.ref a1, .ref a2, .ref a3, .ref a4, .int gg.hs, .ref a5, .ref a6, .ref a7, .int (nI gg.L), .int (nI gg.M), .int mm.pl, .ref a8, .int mm.sd])), (a1, .inl (cI, 49, .inl gg.r)), (a3, .inl (cI, 49, .inl gg.im)), (a4, .inl (cI, 49, .inl mm.ws)), (a5, .inl (cI, 96, .inl gg.lt)), (a6, .inl (cI, 16, .inl gg.rw)), (a7, .inl (cI, 7, .inl gg.rf)), (a8, .inl (cI, 3, .inl mm.nb))]) ⟨hx, hb, hml, hown, hts⟩ (kX4_daysOn l D cI H.size a2 u_47 (gg.n + 1) hI_u_47 p6 t0 hp0 (by omega)) (va_cwS 2 hts gX4_softerBy_X4_daysOn rfl rfl rfl hs_X4_daysOn ⟨Nat.le_of_ble_eq_true rfl, Nat.le_of_ble_eq_true rfl⟩) hK hP hD hS hA [2] [0, 1, 3, 4, 5, 6, 7, 8] [0, 1, 8, 2, 3, 4, 5, 6, 7] rfl rfl (by decide) (by decide) (by decide) (by decide) (fun u => rfl) rfl hl.1 rfl (Nat.le_of_ble_eq_true rfl) dX4_softerBy_70 ⟨Nat.zero_le _, Nat.zero_le _⟩ (fun r_49 u_49 H locs hw_49 hP hD hS => ?_)
    obtain ⟨hr_49, hu_49⟩ := hw_49
    have hI_u_49 : Inv (gg.n + 1) u_49 := (by rw [hu_49]; exact hI_u_47.idsR _)
    refine lv_istore (lv' := [(10, .int r_49), (9, .int 0), (8, .int 1), (0, .ref a0), (1, .int p0), (2, .int p1), (3, .int p2), (4, .int p3), (5, .int p4), (6, .int p5), (7, .int p6)]) hx hb dX4_softerBy_73 hl (by decide) rfl (fun ls hl => ?_)
    refine lv_aload_n hx hb dX4_softerBy_75 rfl (lv_at hl 3 rfl) ?_
    refine va_get (D := D) (ci := 3) (v := .ref a2) (C := RX4) (T := TX4) (N := 13) hx hb hts hi_X4 hown hK.1 hP 0 rfl rfl 1 (by decide) hk_13 (fun _ h9 => h9) rfl dX4_softerBy_76 ?_
    refine lv_aload_n hx hb dX4_softerBy_79 rfl (lv_at hl 3 rfl) ?_
    refine va_get (D := D) (ci := 3) (v := .ref a2) (C := RX4) (T := TX4) (N := 13) hx hb hts hi_X4 hown hK.1 hP 0 rfl rfl 1 (by decide) hk_13 (fun _ h9 => h9) rfl dX4_softerBy_80 ?_
    refine lv_iload_n hx hb dX4_softerBy_83 rfl (lv_at hl 4 rfl) ?_
    refine xc_Si (As := [.ref a2, .int p0]) (rest := [.ref a2]) ⟨hx, hb, hml, hown, hts⟩ (kX4_nestIn l D cI a2 u_49 (gg.n + 1) hI_u_49 p0) (va_cwS 2 hts gX4_softerBy_X4_nestIn rfl rfl rfl hs_X4_nestIn ⟨Nat.le_of_ble_eq_true rfl, Nat.le_of_ble_eq_true rfl⟩) hK hP [2] rfl rfl hl.1 rfl (Nat.le_of_ble_eq_true rfl) dX4_softerBy_84 ⟨Nat.zero_le _, Nat.zero_le _⟩ (fun r_50 hr_50 => ?_)
    refine lv_iconst (v := 1) hx hb dX4_softerBy_87 (by decide) ?_
    refine xc_Si (As := [.ref a2, .int r_50, .int 1]) (rest := []) ⟨hx, hb, hml, hown, hts⟩ (kX4_sumOf l D cI a2 u_49 (gg.n + 1) hI_u_49 r_50 1) (va_cwS 3 hts gX4_softerBy_X4_sumOf rfl rfl rfl hs_X4_sumOf ⟨Nat.le_of_ble_eq_true rfl, Nat.le_of_ble_eq_true rfl⟩) hK hP [2] rfl rfl hl.1 rfl (Nat.le_of_ble_eq_true rfl) dX4_softerBy_88 ⟨Nat.zero_le _, Nat.zero_le _⟩ (fun r_51 hr_51 => ?_)
    refine lv_aload_n hx hb dX4_softerBy_91 rfl (lv_at hl 3 rfl) ?_
    refine va_get (D := D) (ci := 3) (v := .ref a2) (C := RX4) (T := TX4) (N := 13) hx hb hts hi_X4 hown hK.1 hP 0 rfl rfl 1 (by decide) hk_13 (fun _ h9 => h9) rfl dX4_softerBy_92 ?_
    refine lv_aload_n hx hb dX4_softerBy_95 rfl (lv_at hl 3 rfl) ?_
    refine va_get (D := D) (ci := 3) (v := .ref a2) (C := RX4) (T := TX4) (N := 13) hx hb hts hi_X4 hown hK.1 hP 0 rfl rfl 1 (by decide) hk_13 (fun _ h9 => h9) rfl dX4_softerBy_96 ?_
    refine lv_iload_n hx hb dX4_softerBy_99 rfl (lv_at hl 5 rfl) ?_
    refine xc_Si (As := [.ref a2, .int p1]) (rest := [.ref a2, .int r_51]) ⟨hx, hb, hml, hown, hts⟩ (kX4_nestIn l D cI a2 u_49 (gg.n + 1) hI_u_49 p1) (va_cwS 2 hts gX4_softerBy_X4_nestIn rfl rfl rfl hs_X4_nestIn ⟨Nat.le_of_ble_eq_true rfl, Nat.le_of_ble_eq_true rfl⟩) hK hP [2] rfl rfl hl.1 rfl (Nat.le_of_ble_eq_true rfl) dX4_softerBy_100 ⟨Nat.zero_le _, Nat.zero_le _⟩ (fun r_52 hr_52 => ?_)
    refine lv_iconst (v := 1) hx hb dX4_softerBy_103 (by decide) ?_
    refine xc_Si (As := [.ref a2, .int r_52, .int 1]) (rest := [.int r_51]) ⟨hx, hb, hml, hown, hts⟩ (kX4_sumOf l D cI a2 u_49 (gg.n + 1) hI_u_49 r_52 1) (va_cwS 3 hts gX4_softerBy_X4_sumOf rfl rfl rfl hs_X4_sumOf ⟨Nat.le_of_ble_eq_true rfl, Nat.le_of_ble_eq_true rfl⟩) hK hP [2] rfl rfl hl.1 rfl (Nat.le_of_ble_eq_true rfl) dX4_softerBy_104 ⟨Nat.zero_le _, Nat.zero_le _⟩ (fun r_53 hr_53 => ?_)
    refine lv_isub hx hb dX4_softerBy_107 ?_
    exact hret 108 _ (r_51 - r_53) u_49 _ _ dX4_softerBy_108 (by first | (exfalso; omega) | simp [sfV, sfQ, ad1, c_2, c_41, hl_21, hl_47, hr_49, hr_50, hr_51, hr_52, hr_53, hu_21, hu_47, hu_49]) hP hD hS
  obtain ⟨hl_47, hv9_47, hu_47⟩ : (gg.n + 1) < 9 ∧ r_47 = 1 ∧ u_47 = addR u_21 (gg.n + 1) 4 5 p2 := by
    rcases hw_47 with q | q
    · exact absurd q.2.1 c_48
    · exact q
  have hI_u_47 : Inv ((gg.n + 1) + 1) u_47 := (by rw [hu_47]; exact hI_u_21.iaddN hl_47 (k := 4) (f := 5) (by omega) (by omega) (okv_2 hwa4 hwa))
  refine lv_iconst (v := 1) hx hb dX4_softerBy_57 (by decide) ?_
  refine lv_goto (tgt := 62) hx hb dX4_softerBy_58 (by decide) ?_
  refine lv_istore (lv' := [(9, .int 1), (8, .int 1), (0, .ref a0), (1, .int p0), (2, .int p1), (3, .int p2), (4, .int p3), (5, .int p4), (6, .int p5), (7, .int p6)]) hx hb dX4_softerBy_62 hl (by decide) rfl (fun ls hl => ?_)
  refine lv_aload_n hx hb dX4_softerBy_64 rfl (lv_at hl 2 rfl) ?_
  refine va_get (D := D) (ci := 3) (v := .ref a2) (C := RX4) (T := TX4) (N := 13) hx hb hts hi_X4 hown hK.1 hP 0 rfl rfl 1 (by decide) hk_13 (fun _ h9 => h9) rfl dX4_softerBy_65 ?_
  refine lv_iload hx hb dX4_softerBy_68 (lv_at hl 9 rfl) ?_
  refine xw_Si (As := [.ref a2, .int p6]) (rest := []) (Wn := fun u => [(a0, .inr (3, [.ref a1, .ref a2, .ref a3, .ref a4, .int gg.hs, .ref a5, .ref a6, .ref a7, .int (nI gg.L), .int (nI gg.M), .int mm.pl, .ref a8, .int mm.sd])), (a1, .inl (cI, 49, .inl gg.r)), (a2, .inl (cI, 49, .inl u)), (a3, .inl (cI, 49, .inl gg.im)), (a4, .inl (cI, 49, .inl mm.ws)), (a5, .inl (cI, 96, .inl gg.lt)), (a6, .inl (cI, 16, .inl gg.rw)), (a7, .inl (cI, 7, .inl gg.rf)), (a8, .inl (cI, 3, .inl mm.nb))]) (Wr := [(a0, .inr (3, [.ref a1, .ref a2, .ref a3, .ref a4, .int gg.hs, .ref a5, .ref a6, .ref a7, .int (nI gg.L), .int (nI gg.M), .int mm.pl, .ref a8, .int mm.sd])), (a1, .inl (cI, 49, .inl gg.r)), (a3, .inl (cI, 49, .inl gg.im)), (a4, .inl (cI, 49, .inl mm.ws)), (a5, .inl (cI, 96, .inl gg.lt)), (a6, .inl (cI, 16, .inl gg.rw)), (a7, .inl (cI, 7, .inl gg.rf)), (a8, .inl (cI, 3, .inl mm.nb))]) ⟨hx, hb, hml, hown, hts⟩ (kX4_daysOn l D cI H.size a2 u_47 ((gg.n + 1) + 1) hI_u_47 p6 t0 hp0 (by omega)) (va_cwS 2 hts gX4_softerBy_X4_daysOn rfl rfl rfl hs_X4_daysOn ⟨Nat.le_of_ble_eq_true rfl, Nat.le_of_ble_eq_true rfl⟩) hK hP hD hS hA [2] [0, 1, 3, 4, 5, 6, 7, 8] [0, 1, 8, 2, 3, 4, 5, 6, 7] rfl rfl (by decide) (by decide) (by decide) (by decide) (fun u => rfl) rfl hl.1 rfl (Nat.le_of_ble_eq_true rfl) dX4_softerBy_70 ⟨Nat.zero_le _, Nat.zero_le _⟩ (fun r_54 u_54 H locs hw_54 hP hD hS => ?_)
  obtain ⟨hr_54, hu_54⟩ := hw_54
  have hI_u_54 : Inv ((gg.n + 1) + 1) u_54 := (by rw [hu_54]; exact hI_u_47.idsR _)
  refine lv_istore (lv' := [(10, .int r_54), (9, .int 1), (8, .int 1), (0, .ref a0), (1, .int p0), (2, .int p1), (3, .int p2), (4, .int p3), (5, .int p4), (6, .int p5), (7, .int p6)]) hx hb dX4_softerBy_73 hl (by decide) rfl (fun ls hl => ?_)
  refine lv_aload_n hx hb dX4_softerBy_75 rfl (lv_at hl 3 rfl) ?_
  refine va_get (D := D) (ci := 3) (v := .ref a2) (C := RX4) (T := TX4) (N := 13) hx hb hts hi_X4 hown hK.1 hP 0 rfl rfl 1 (by decide) hk_13 (fun _ h9 => h9) rfl dX4_softerBy_76 ?_
  refine lv_aload_n hx hb dX4_softerBy_79 rfl (lv_at hl 3 rfl) ?_
  refine va_get (D := D) (ci := 3) (v := .ref a2) (C := RX4) (T := TX4) (N := 13) hx hb hts hi_X4 hown hK.1 hP 0 rfl rfl 1 (by decide) hk_13 (fun _ h9 => h9) rfl dX4_softerBy_80 ?_
  refine lv_iload_n hx hb dX4_softerBy_83 rfl (lv_at hl 4 rfl) ?_
  refine xc_Si (As := [.ref a2, .int p0]) (rest := [.ref a2]) ⟨hx, hb, hml, hown, hts⟩ (kX4_nestIn l D cI a2 u_54 ((gg.n + 1) + 1) hI_u_54 p0) (va_cwS 2 hts gX4_softerBy_X4_nestIn rfl rfl rfl hs_X4_nestIn ⟨Nat.le_of_ble_eq_true rfl, Nat.le_of_ble_eq_true rfl⟩) hK hP [2] rfl rfl hl.1 rfl (Nat.le_of_ble_eq_true rfl) dX4_softerBy_84 ⟨Nat.zero_le _, Nat.zero_le _⟩ (fun r_55 hr_55 => ?_)
  refine lv_iconst (v := 1) hx hb dX4_softerBy_87 (by decide) ?_
  refine xc_Si (As := [.ref a2, .int r_55, .int 1]) (rest := []) ⟨hx, hb, hml, hown, hts⟩ (kX4_sumOf l D cI a2 u_54 ((gg.n + 1) + 1) hI_u_54 r_55 1) (va_cwS 3 hts gX4_softerBy_X4_sumOf rfl rfl rfl hs_X4_sumOf ⟨Nat.le_of_ble_eq_true rfl, Nat.le_of_ble_eq_true rfl⟩) hK hP [2] rfl rfl hl.1 rfl (Nat.le_of_ble_eq_true rfl) dX4_softerBy_88 ⟨Nat.zero_le _, Nat.zero_le _⟩ (fun r_56 hr_56 => ?_)
  refine lv_aload_n hx hb dX4_softerBy_91 rfl (lv_at hl 3 rfl) ?_
  refine va_get (D := D) (ci := 3) (v := .ref a2) (C := RX4) (T := TX4) (N := 13) hx hb hts hi_X4 hown hK.1 hP 0 rfl rfl 1 (by decide) hk_13 (fun _ h9 => h9) rfl dX4_softerBy_92 ?_
  refine lv_aload_n hx hb dX4_softerBy_95 rfl (lv_at hl 3 rfl) ?_
  refine va_get (D := D) (ci := 3) (v := .ref a2) (C := RX4) (T := TX4) (N := 13) hx hb hts hi_X4 hown hK.1 hP 0 rfl rfl 1 (by decide) hk_13 (fun _ h9 => h9) rfl dX4_softerBy_96 ?_
  refine lv_iload_n hx hb dX4_softerBy_99 rfl (lv_at hl 5 rfl) ?_
  refine xc_Si (As := [.ref a2, .int p1]) (rest := [.ref a2, .int r_56]) ⟨hx, hb, hml, hown, hts⟩ (kX4_nestIn l D cI a2 u_54 ((gg.n + 1) + 1) hI_u_54 p1) (va_cwS 2 hts gX4_softerBy_X4_nestIn rfl rfl rfl hs_X4_nestIn ⟨Nat.le_of_ble_eq_true rfl, Nat.le_of_ble_eq_true rfl⟩) hK hP [2] rfl rfl hl.1 rfl (Nat.le_of_ble_eq_true rfl) dX4_softerBy_100 ⟨Nat.zero_le _, Nat.zero_le _⟩ (fun r_57 hr_57 => ?_)
  refine lv_iconst (v := 1) hx hb dX4_softerBy_103 (by decide) ?_
  refine xc_Si (As := [.ref a2, .int r_57, .int 1]) (rest := [.int r_56]) ⟨hx, hb, hml, hown, hts⟩ (kX4_sumOf l D cI a2 u_54 ((gg.n + 1) + 1) hI_u_54 r_57 1) (va_cwS 3 hts gX4_softerBy_X4_sumOf rfl rfl rfl hs_X4_sumOf ⟨Nat.le_of_ble_eq_true rfl, Nat.le_of_ble_eq_true rfl⟩) hK hP [2] rfl rfl hl.1 rfl (Nat.le_of_ble_eq_true rfl) dX4_softerBy_104 ⟨Nat.zero_le _, Nat.zero_le _⟩ (fun r_58 hr_58 => ?_)
  refine lv_isub hx hb dX4_softerBy_107 ?_
  exact hret 108 _ (r_56 - r_58) u_54 _ _ dX4_softerBy_108 (by first | (exfalso; omega) | simp [sfV, sfQ, ad1, c_2, c_41, hl_21, hl_47, hr_54, hr_55, hr_56, hr_57, hr_58, hu_21, hu_47, hu_54]) hP hD hS

set_option maxHeartbeats 4000000 in
set_option maxRecDepth 100000 in
theorem kX4_two (l : Launch) (D : va_G) (cI : ClassId) (sz : Nat) (a0 a1 a2 a3 a4 a5 a6 a7 a8 : Nat) (gg : GG) (mm : MS) (hG : Good gg) (p0 p1 p2 : Int32) : Met l yX4_two wsX4_two ({ frames := 8, cells := 0, slots := 0, locals := 185 }) (PRW D cI [.ref a0, .int p0, .int p1, .int p2] [(a0, .inr (3, [.ref a1, .ref a2, .ref a3, .ref a4, .int gg.hs, .ref a5, .ref a6, .ref a7, .int (nI gg.L), .int (nI gg.M), .int mm.pl, .ref a8, .int mm.sd])), (a1, .inl (cI, 49, .inl gg.r)), (a2, .inl (cI, 49, .inl mm.m)), (a3, .inl (cI, 49, .inl gg.im)), (a4, .inl (cI, 49, .inl mm.ws)), (a5, .inl (cI, 96, .inl gg.lt)), (a6, .inl (cI, 16, .inl gg.rw)), (a7, .inl (cI, 7, .inl gg.rf)), (a8, .inl (cI, 3, .inl mm.nb))] sz) (va_Qi (S := GG × MS) (fun v u => (v, u.1) = sp_two gg p0 p1 p2) (BRW D [(a0, .inr (3, [.ref a1, .ref a2, .ref a3, .ref a4, .int gg.hs, .ref a5, .ref a6, .ref a7, .int (nI gg.L), .int (nI gg.M), .int mm.pl, .ref a8, .int mm.sd])), (a1, .inl (cI, 49, .inl gg.r)), (a2, .inl (cI, 49, .inl mm.m)), (a3, .inl (cI, 49, .inl gg.im)), (a4, .inl (cI, 49, .inl mm.ws)), (a5, .inl (cI, 96, .inl gg.lt)), (a6, .inl (cI, 16, .inl gg.rw)), (a7, .inl (cI, 7, .inl gg.rf)), (a8, .inl (cI, 3, .inl mm.nb))] sz (fun u => [(a0, .inr (3, [.ref a1, .ref a2, .ref a3, .ref a4, .int u.1.hs, .ref a5, .ref a6, .ref a7, .int (nI u.1.L), .int (nI u.1.M), .int u.2.pl, .ref a8, .int u.2.sd])), (a1, .inl (cI, 49, .inl u.1.r)), (a2, .inl (cI, 49, .inl u.2.m)), (a3, .inl (cI, 49, .inl u.1.im)), (a4, .inl (cI, 49, .inl u.2.ws)), (a5, .inl (cI, 96, .inl u.1.lt)), (a6, .inl (cI, 16, .inl u.1.rw)), (a7, .inl (cI, 7, .inl u.1.rf)), (a8, .inl (cI, 3, .inl u.2.nb))])) (va_A [(a0, .inr (3, [.ref a1, .ref a2, .ref a3, .ref a4, .int gg.hs, .ref a5, .ref a6, .ref a7, .int (nI gg.L), .int (nI gg.M), .int mm.pl, .ref a8, .int mm.sd])), (a1, .inl (cI, 49, .inl gg.r)), (a2, .inl (cI, 49, .inl mm.m)), (a3, .inl (cI, 49, .inl gg.im)), (a4, .inl (cI, 49, .inl mm.ws)), (a5, .inl (cI, 96, .inl gg.lt)), (a6, .inl (cI, 16, .inl gg.rw)), (a7, .inl (cI, 7, .inl gg.rf)), (a8, .inl (cI, 3, .inl mm.nb))] sz)) 0 0 (va_A [(a0, .inr (3, [.ref a1, .ref a2, .ref a3, .ref a4, .int gg.hs, .ref a5, .ref a6, .ref a7, .int (nI gg.L), .int (nI gg.M), .int mm.pl, .ref a8, .int mm.sd])), (a1, .inl (cI, 49, .inl gg.r)), (a2, .inl (cI, 49, .inl mm.m)), (a3, .inl (cI, 49, .inl gg.im)), (a4, .inl (cI, 49, .inl mm.ws)), (a5, .inl (cI, 96, .inl gg.lt)), (a6, .inl (cI, 16, .inl gg.rw)), (a7, .inl (cI, 7, .inl gg.rf)), (a8, .inl (cI, 3, .inl mm.nb))] sz) := by
  refine st_rwi (cc := cX4_two) (maxL := 8) (rt := .int) (by decide) rfl (Nat.le_of_ble_eq_true rfl) (fun _ _ _ => rfl) ?_
  intro p e s m below meth c Q ls A hx hb hml hts hown hP hK hD hA hS hl hret
  replace hown : s.vm.findClass RX4 = some m.cls := hown
  replace hl : lv_has ls 8 [(0, .ref a0), (1, .int p0), (2, .int p1), (3, .int p2)] := hl
  obtain ⟨H, hH⟩ : ∃ z, z = s.heap := ⟨_, rfl⟩
  obtain ⟨locs, hlo⟩ : ∃ z : List Loc, z = [] := ⟨_, rfl⟩
  replace hP : va_P D vwCl [(a0, .inr (3, [.ref a1, .ref a2, .ref a3, .ref a4, .int gg.hs, .ref a5, .ref a6, .ref a7, .int (nI gg.L), .int (nI gg.M), .int mm.pl, .ref a8, .int mm.sd])), (a1, .inl (cI, 49, .inl gg.r)), (a2, .inl (cI, 49, .inl mm.m)), (a3, .inl (cI, 49, .inl gg.im)), (a4, .inl (cI, 49, .inl mm.ws)), (a5, .inl (cI, 96, .inl gg.lt)), (a6, .inl (cI, 16, .inl gg.rw)), (a7, .inl (cI, 7, .inl gg.rf)), (a8, .inl (cI, 3, .inl mm.nb))] H := by rw [hH]; exact hP
  replace hS : va_S A s.heap H locs := by rw [hH, hlo]; exact hS
  show W p l e ({ frames := 8, cells := 0, slots := 0, locals := 185 }) s m [.ref a0, .int p0, .int p1, .int p2].toArray below meth c s.heap [] 0 0 Q (F0 m 0 ls [])
  rw [← hlo]
  suffices hgo : W p l e ({ frames := 8, cells := 0, slots := 0, locals := 185 }) s m [.ref a0, .int p0, .int p1, .int p2].toArray below meth c H locs 0 0 Q (F0 m 0 ls []) by rw [hH] at hgo; exact hgo
  clear hH hlo
  have hI := hG.inv
  have hn9 := hI.le
  have hL96 := hG.L96
  have hM16 := hG.M16
  refine lv_iload_n hx hb dX4_two_0 rfl (lv_at hl 1 rfl) ?_
  refine xc_Si (As := [.int p0]) (rest := []) ⟨hx, hb, hml, hown, hts⟩ (kX4_isWoman l D cI p0) (va_cwS 1 hts gX4_two_X4_isWoman rfl rfl rfl hs_X4_isWoman ⟨Nat.le_of_ble_eq_true rfl, Nat.le_of_ble_eq_true rfl⟩) hK hP [] rfl rfl hl.1 rfl (Nat.le_of_ble_eq_true rfl) dX4_two_1 ⟨Nat.zero_le _, Nat.zero_le _⟩ (fun r_1 hr_1 => ?_)
  refine lv_if_eq (tgt := 29) hx hb dX4_two_4 (by decide) (fun c_2 => ?_) (fun c_2 => ?_)
  · skip
    have hb_2 : womB p0 = false := bool_f hr_1 c_2
    refine lv_iconst (v := (-1)) hx hb dX4_two_29 (by decide) ?_
    refine lv_istore (lv' := [(4, .int (-1)), (0, .ref a0), (1, .int p0), (2, .int p1), (3, .int p2)]) hx hb dX4_two_30 hl (by decide) rfl (fun ls hl => ?_)
    refine lv_iload hx hb dX4_two_32 (lv_at hl 0 rfl) ?_
    refine lv_if_eq (tgt := 44) hx hb dX4_two_34 (by decide) (fun c_3 => ?_) (fun c_3 => ?_)
    · skip
      exact absurd c_3 (by decide)
    refine lv_aload_n hx hb dX4_two_37 rfl (lv_at hl 1 rfl) ?_
    refine lv_iload hx hb dX4_two_38 (lv_at hl 0 rfl) ?_
    refine xw_Vi (As := [.int (-1)]) (rest := []) (Wn := fun u => [(a0, .inr (3, [.ref a1, .ref a2, .ref a3, .ref a4, .int gg.hs, .ref a5, .ref a6, .ref a7, .int (nI gg.L), .int (nI gg.M), .int mm.pl, .ref a8, .int mm.sd])), (a1, .inl (cI, 49, .inl gg.r)), (a2, .inl (cI, 49, .inl mm.m)), (a3, .inl (cI, 49, .inl gg.im)), (a4, .inl (cI, 49, .inl mm.ws)), (a5, .inl (cI, 96, .inl gg.lt)), (a6, .inl (cI, 16, .inl gg.rw)), (a7, .inl (cI, 7, .inl (upd gg.rf (cN (-1)) (gg.rf (cN (-1)) + 1)))), (a8, .inl (cI, 3, .inl mm.nb))]) (Wr := [(a1, .inl (cI, 49, .inl gg.r)), (a2, .inl (cI, 49, .inl mm.m)), (a3, .inl (cI, 49, .inl gg.im)), (a4, .inl (cI, 49, .inl mm.ws)), (a5, .inl (cI, 96, .inl gg.lt)), (a6, .inl (cI, 16, .inl gg.rw)), (a8, .inl (cI, 3, .inl mm.nb))]) ⟨hx, hb, hml, hown, hts⟩ (kX4_no l D cI H.size a0 a1 a2 a3 a4 a5 a6 a7 a8 gg mm (-1) okc_1) (cwV 1 hts gX4_two_X4_no rfl rfl rfl hv_X4_no ⟨Nat.le_of_ble_eq_true rfl, Nat.le_of_ble_eq_true rfl⟩) hK hP hD hS hA [0, 7] [1, 2, 3, 4, 5, 6, 8] [7, 0, 1, 2, 3, 4, 5, 8, 6] rfl rfl (by decide) (by decide) (by decide) (by decide) (fun u => rfl) 0 rfl rfl rfl hl.1 rfl (Nat.le_of_ble_eq_true rfl) dX4_two_40 ⟨Nat.zero_le _, Nat.zero_le _⟩ (fun r_4 u_4 H locs hw_4 hP hD hS => ?_)
    exact hret 43 _ r_4 ((gg.n, gg.r, gg.m, gg.im, gg.hs, gg.lt, gg.L, gg.rw, gg.M, (upd gg.rf (cN (-1)) (gg.rf (cN (-1)) + 1))), mm) _ _ dX4_two_43 (by first | (simp [sp_two, rfz, us, c_2, hb_2, hw_4]; done) | (simp [sp_two, rfz, us, c_2, hb_2, hw_4, isI]; done) | (simp [sp_two, rfz, us, c_2, hb_2, hw_4, wrB, lackF]; done)) hP hD hS
  have hb_2 : womB p0 = true := bool_t hr_1 c_2
  obtain ⟨w_2, hw_2, ew_2⟩ := womB_iff.1 hb_2
  refine lv_iload_n hx hb dX4_two_7 rfl (lv_at hl 2 rfl) ?_
  refine xc_Si (As := [.int p1]) (rest := []) ⟨hx, hb, hml, hown, hts⟩ (kX4_isWoman l D cI p1) (va_cwS 1 hts gX4_two_X4_isWoman rfl rfl rfl hs_X4_isWoman ⟨Nat.le_of_ble_eq_true rfl, Nat.le_of_ble_eq_true rfl⟩) hK hP [] rfl rfl hl.1 rfl (Nat.le_of_ble_eq_true rfl) dX4_two_8 ⟨Nat.zero_le _, Nat.zero_le _⟩ (fun r_5 hr_5 => ?_)
  refine lv_if_eq (tgt := 29) hx hb dX4_two_11 (by decide) (fun c_6 => ?_) (fun c_6 => ?_)
  · skip
    have hb_6 : womB p1 = false := bool_f hr_5 c_6
    refine lv_iconst (v := (-1)) hx hb dX4_two_29 (by decide) ?_
    refine lv_istore (lv' := [(4, .int (-1)), (0, .ref a0), (1, .int p0), (2, .int p1), (3, .int p2)]) hx hb dX4_two_30 hl (by decide) rfl (fun ls hl => ?_)
    refine lv_iload hx hb dX4_two_32 (lv_at hl 0 rfl) ?_
    refine lv_if_eq (tgt := 44) hx hb dX4_two_34 (by decide) (fun c_7 => ?_) (fun c_7 => ?_)
    · skip
      exact absurd c_7 (by decide)
    refine lv_aload_n hx hb dX4_two_37 rfl (lv_at hl 1 rfl) ?_
    refine lv_iload hx hb dX4_two_38 (lv_at hl 0 rfl) ?_
    refine xw_Vi (As := [.int (-1)]) (rest := []) (Wn := fun u => [(a0, .inr (3, [.ref a1, .ref a2, .ref a3, .ref a4, .int gg.hs, .ref a5, .ref a6, .ref a7, .int (nI gg.L), .int (nI gg.M), .int mm.pl, .ref a8, .int mm.sd])), (a1, .inl (cI, 49, .inl gg.r)), (a2, .inl (cI, 49, .inl mm.m)), (a3, .inl (cI, 49, .inl gg.im)), (a4, .inl (cI, 49, .inl mm.ws)), (a5, .inl (cI, 96, .inl gg.lt)), (a6, .inl (cI, 16, .inl gg.rw)), (a7, .inl (cI, 7, .inl (upd gg.rf (cN (-1)) (gg.rf (cN (-1)) + 1)))), (a8, .inl (cI, 3, .inl mm.nb))]) (Wr := [(a1, .inl (cI, 49, .inl gg.r)), (a2, .inl (cI, 49, .inl mm.m)), (a3, .inl (cI, 49, .inl gg.im)), (a4, .inl (cI, 49, .inl mm.ws)), (a5, .inl (cI, 96, .inl gg.lt)), (a6, .inl (cI, 16, .inl gg.rw)), (a8, .inl (cI, 3, .inl mm.nb))]) ⟨hx, hb, hml, hown, hts⟩ (kX4_no l D cI H.size a0 a1 a2 a3 a4 a5 a6 a7 a8 gg mm (-1) okc_1) (cwV 1 hts gX4_two_X4_no rfl rfl rfl hv_X4_no ⟨Nat.le_of_ble_eq_true rfl, Nat.le_of_ble_eq_true rfl⟩) hK hP hD hS hA [0, 7] [1, 2, 3, 4, 5, 6, 8] [7, 0, 1, 2, 3, 4, 5, 8, 6] rfl rfl (by decide) (by decide) (by decide) (by decide) (fun u => rfl) 0 rfl rfl rfl hl.1 rfl (Nat.le_of_ble_eq_true rfl) dX4_two_40 ⟨Nat.zero_le _, Nat.zero_le _⟩ (fun r_8 u_8 H locs hw_8 hP hD hS => ?_)
    exact hret 43 _ r_8 ((gg.n, gg.r, gg.m, gg.im, gg.hs, gg.lt, gg.L, gg.rw, gg.M, (upd gg.rf (cN (-1)) (gg.rf (cN (-1)) + 1))), mm) _ _ dX4_two_43 (by first | (simp [sp_two, rfz, us, c_2, c_6, hb_2, hb_6, hw_8]; done) | (simp [sp_two, rfz, us, c_2, c_6, hb_2, hb_6, hw_8, isI]; done) | (simp [sp_two, rfz, us, c_2, c_6, hb_2, hb_6, hw_8, wrB, lackF]; done)) hP hD hS
  have hb_6 : womB p1 = true := bool_t hr_5 c_6
  obtain ⟨w_6, hw_6, ew_6⟩ := womB_iff.1 hb_6
  refine lv_iload_n hx hb dX4_two_14 rfl (lv_at hl 1 rfl) ?_
  refine lv_iload_n hx hb dX4_two_15 rfl (lv_at hl 2 rfl) ?_
  refine lv_icmp_eq (tgt := 29) hx hb dX4_two_16 (by decide) (fun c_9 => ?_) (fun c_9 => ?_)
  · skip
    have n_9 : w_2 = w_6 := (ni_eq (a := w_2) (b := w_6) ew_2 ew_6 (by omega) (by omega)).mp c_9
    refine lv_iconst (v := (-1)) hx hb dX4_two_29 (by decide) ?_
    refine lv_istore (lv' := [(4, .int (-1)), (0, .ref a0), (1, .int p0), (2, .int p1), (3, .int p2)]) hx hb dX4_two_30 hl (by decide) rfl (fun ls hl => ?_)
    refine lv_iload hx hb dX4_two_32 (lv_at hl 0 rfl) ?_
    refine lv_if_eq (tgt := 44) hx hb dX4_two_34 (by decide) (fun c_10 => ?_) (fun c_10 => ?_)
    · skip
      exact absurd c_10 (by decide)
    refine lv_aload_n hx hb dX4_two_37 rfl (lv_at hl 1 rfl) ?_
    refine lv_iload hx hb dX4_two_38 (lv_at hl 0 rfl) ?_
    refine xw_Vi (As := [.int (-1)]) (rest := []) (Wn := fun u => [(a0, .inr (3, [.ref a1, .ref a2, .ref a3, .ref a4, .int gg.hs, .ref a5, .ref a6, .ref a7, .int (nI gg.L), .int (nI gg.M), .int mm.pl, .ref a8, .int mm.sd])), (a1, .inl (cI, 49, .inl gg.r)), (a2, .inl (cI, 49, .inl mm.m)), (a3, .inl (cI, 49, .inl gg.im)), (a4, .inl (cI, 49, .inl mm.ws)), (a5, .inl (cI, 96, .inl gg.lt)), (a6, .inl (cI, 16, .inl gg.rw)), (a7, .inl (cI, 7, .inl (upd gg.rf (cN (-1)) (gg.rf (cN (-1)) + 1)))), (a8, .inl (cI, 3, .inl mm.nb))]) (Wr := [(a1, .inl (cI, 49, .inl gg.r)), (a2, .inl (cI, 49, .inl mm.m)), (a3, .inl (cI, 49, .inl gg.im)), (a4, .inl (cI, 49, .inl mm.ws)), (a5, .inl (cI, 96, .inl gg.lt)), (a6, .inl (cI, 16, .inl gg.rw)), (a8, .inl (cI, 3, .inl mm.nb))]) ⟨hx, hb, hml, hown, hts⟩ (kX4_no l D cI H.size a0 a1 a2 a3 a4 a5 a6 a7 a8 gg mm (-1) okc_1) (cwV 1 hts gX4_two_X4_no rfl rfl rfl hv_X4_no ⟨Nat.le_of_ble_eq_true rfl, Nat.le_of_ble_eq_true rfl⟩) hK hP hD hS hA [0, 7] [1, 2, 3, 4, 5, 6, 8] [7, 0, 1, 2, 3, 4, 5, 8, 6] rfl rfl (by decide) (by decide) (by decide) (by decide) (fun u => rfl) 0 rfl rfl rfl hl.1 rfl (Nat.le_of_ble_eq_true rfl) dX4_two_40 ⟨Nat.zero_le _, Nat.zero_le _⟩ (fun r_11 u_11 H locs hw_11 hP hD hS => ?_)
    exact hret 43 _ r_11 ((gg.n, gg.r, gg.m, gg.im, gg.hs, gg.lt, gg.L, gg.rw, gg.M, (upd gg.rf (cN (-1)) (gg.rf (cN (-1)) + 1))), mm) _ _ dX4_two_43 (by first | (simp [sp_two, rfz, us, c_2, c_6, c_9, hb_2, hb_6, n_9, hw_11]; done) | (simp [sp_two, rfz, us, c_2, c_6, c_9, hb_2, hb_6, n_9, hw_11, isI]; done) | (simp [sp_two, rfz, us, c_2, c_6, c_9, hb_2, hb_6, n_9, hw_11, wrB, lackF]; done)) hP hD hS
  have n_9 : ¬ w_2 = w_6 := fun q => c_9 ((ni_eq (a := w_2) (b := w_6) ew_2 ew_6 (by omega) (by omega)).mpr q)
  refine lv_iload_n hx hb dX4_two_19 rfl (lv_at hl 3 rfl) ?_
  refine lv_iconst (v := 0) hx hb dX4_two_20 (by decide) ?_
  refine lv_bipush (v := 30) hx hb dX4_two_21 (by decide) ?_
  refine xc_Si (As := [.int p2, .int 0, .int 30]) (rest := []) ⟨hx, hb, hml, hown, hts⟩ (kX4_wrongBy l D cI p2 0 30) (va_cwS 3 hts gX4_two_X4_wrongBy rfl rfl rfl hs_X4_wrongBy ⟨Nat.le_of_ble_eq_true rfl, Nat.le_of_ble_eq_true rfl⟩) hK hP [] rfl rfl hl.1 rfl (Nat.le_of_ble_eq_true rfl) dX4_two_23 ⟨Nat.zero_le _, Nat.zero_le _⟩ (fun r_12 hr_12 => ?_)
  replace hr_12 : r_12 = wrB p2 0 30 := hr_12
  refine lv_goto (tgt := 30) hx hb dX4_two_26 (by decide) ?_
  refine lv_istore (lv' := [(4, .int r_12), (0, .ref a0), (1, .int p0), (2, .int p1), (3, .int p2)]) hx hb dX4_two_30 hl (by decide) rfl (fun ls hl => ?_)
  refine lv_iload hx hb dX4_two_32 (lv_at hl 0 rfl) ?_
  refine lv_if_eq (tgt := 44) hx hb dX4_two_34 (by decide) (fun c_13 => ?_) (fun c_13 => ?_)
  · skip
    have hv_13 : wrB p2 0 30 = 0 := hr_12.symm.trans c_13
    obtain ⟨v_13, vl_13, vu_13, ev_13⟩ := wrB_nat (a := 0) (b := 30) (rfl : (0 : Int32) = nI 0) (rfl : (30 : Int32) = nI 30) (by decide) (by decide) hv_13
    have tn_13 : tN p2 = v_13 := by rw [ev_13]; exact tN_nI (by omega)
    refine lv_iconst (v := 0) hx hb dX4_two_44 (by decide) ?_
    refine lv_istore (lv' := [(5, .int 0), (4, .int r_12), (0, .ref a0), (1, .int p0), (2, .int p1), (3, .int p2)]) hx hb dX4_two_45 hl (by decide) rfl (fun ls hl => ?_)
    have lp_47_14 : ∀ (fu : Nat) (i : Nat) (x5 : Int32) (f : RR) (ls : Array Slot) (H : Heap) (locs : List Loc), 4 - i < fu → (x5 = nI i) → (i ≤ 4) → (∀ j, j < i → twP gg.r gg.n v_13 p0 p1 j = false) → va_P D vwCl [(a0, .inr (3, [.ref a1, .ref a2, .ref a3, .ref a4, .int gg.hs, .ref a5, .ref a6, .ref a7, .int (nI gg.L), .int (nI gg.M), .int mm.pl, .ref a8, .int mm.sd])), (a1, .inl (cI, 49, .inl gg.r)), (a2, .inl (cI, 49, .inl f)), (a3, .inl (cI, 49, .inl gg.im)), (a4, .inl (cI, 49, .inl mm.ws)), (a5, .inl (cI, 96, .inl gg.lt)), (a6, .inl (cI, 16, .inl gg.rw)), (a7, .inl (cI, 7, .inl gg.rf)), (a8, .inl (cI, 3, .inl mm.nb))] H → va_D A [(a0, .inr (3, [.ref a1, .ref a2, .ref a3, .ref a4, .int gg.hs, .ref a5, .ref a6, .ref a7, .int (nI gg.L), .int (nI gg.M), .int mm.pl, .ref a8, .int mm.sd])), (a1, .inl (cI, 49, .inl gg.r)), (a2, .inl (cI, 49, .inl f)), (a3, .inl (cI, 49, .inl gg.im)), (a4, .inl (cI, 49, .inl mm.ws)), (a5, .inl (cI, 96, .inl gg.lt)), (a6, .inl (cI, 16, .inl gg.rw)), (a7, .inl (cI, 7, .inl gg.rf)), (a8, .inl (cI, 3, .inl mm.nb))] → va_S A s.heap H locs → lv_has ls 8 [(5, .int x5), (0, .ref a0), (1, .int p0), (2, .int p1), (3, .int p2)] → W p l e ({ frames := 8, cells := 0, slots := 0, locals := 185 }) s m [.ref a0, .int p0, .int p1, .int p2].toArray below meth c H locs 0 0 Q (F0 m 47 ls []) := by
      intro fu
      induction fu with
      | zero =>
        intro i x5 f ls H locs hfu
        exact absurd hfu (Nat.not_lt_zero _)
      | succ fu ih_14 =>
        intro i x5 f ls H locs hfu hx5 hi hj hP hD hS hl
        refine lv_iload hx hb dX4_two_47 (lv_at hl 0 rfl) ?_
        refine lv_iconst (v := 4) hx hb dX4_two_49 (by decide) ?_
        refine lv_icmp_ge (tgt := 142) hx hb dX4_two_50 (by decide) (fun c_15 => ?_) (fun c_15 => ?_)
        · skip
          have n_15 : 4 ≤ i := (ni_le (a := 4) (b := i) (rfl : (4 : Int32) = nI 4) hx5 (by decide) (by omega)).mp c_15
          have d_15 : ¬ x5 < 4 := Int32.not_lt.2 c_15
          have m_15 : ¬ i < 4 := by omega
          refine lv_bipush (v := (-9)) hx hb dX4_two_142 (by decide) ?_
          exact hret 144 _ (-9) (gg, (f, mm.ws, mm.nb, mm.pl, mm.sd)) _ _ dX4_two_144 (by have e9 : i = 4 := (by omega); rw [e9] at hj; simp [sp_two, ff_none hj, hb_2, hb_6, hv_13, tn_13, c_9]) hP hD hS
        have n_15 : ¬ 4 ≤ i := fun q => c_15 ((ni_le (a := 4) (b := i) (rfl : (4 : Int32) = nI 4) hx5 (by decide) (by omega)).mpr q)
        have d_15 : x5 < 4 := Int32.not_le.1 c_15
        have m_15 : i < 4 := by omega
        refine lv_iload hx hb dX4_two_53 (lv_at hl 0 rfl) ?_
        refine lv_iconst (v := 2) hx hb dX4_two_55 (by decide) ?_
        refine lv_idiv hx hb dX4_two_56 (by decide) ?_
        refine lv_topi (fun x_16 ex_16 => ?_)
        refine lv_istore (lv' := [(6, .int x_16), (5, .int x5), (0, .ref a0), (1, .int p0), (2, .int p1), (3, .int p2)]) hx hb dX4_two_57 hl (by decide) rfl (fun ls hl => ?_)
        refine lv_iload hx hb dX4_two_59 (lv_at hl 1 rfl) ?_
        refine lv_iconst (v := 2) hx hb dX4_two_61 (by decide) ?_
        refine lv_irem hx hb dX4_two_62 (by decide) ?_
        refine lv_topi (fun x_17 ex_17 => ?_)
        refine lv_istore (lv' := [(7, .int x_17), (6, .int x_16), (5, .int x5), (0, .ref a0), (1, .int p0), (2, .int p1), (3, .int p2)]) hx hb dX4_two_63 hl (by decide) rfl (fun ls hl => ?_)
        refine lv_aload_n hx hb dX4_two_65 rfl (lv_at hl 3 rfl) ?_
        refine lv_iload_n hx hb dX4_two_66 rfl (lv_at hl 4 rfl) ?_
        refine lv_iload_n hx hb dX4_two_67 rfl (lv_at hl 5 rfl) ?_
        refine lv_iload_n hx hb dX4_two_68 rfl (lv_at hl 4 rfl) ?_
        refine lv_iconst (v := 1) hx hb dX4_two_69 (by decide) ?_
        refine lv_iload hx hb dX4_two_70 (lv_at hl 1 rfl) ?_
        refine lv_isub hx hb dX4_two_72 ?_
        refine lv_iload_n hx hb dX4_two_73 rfl (lv_at hl 5 rfl) ?_
        refine lv_iload hx hb dX4_two_74 (lv_at hl 0 rfl) ?_
        refine lv_iload_n hx hb dX4_two_76 rfl (lv_at hl 6 rfl) ?_
        refine xw_Vi (As := [.int p0, .int p1, .int p0, .int (1 - x_16), .int p1, .int x_17, .int p2]) (rest := []) (Wn := fun u => [(a0, .inr (3, [.ref a1, .ref a2, .ref a3, .ref a4, .int gg.hs, .ref a5, .ref a6, .ref a7, .int (nI gg.L), .int (nI gg.M), .int mm.pl, .ref a8, .int mm.sd])), (a1, .inl (cI, 49, .inl gg.r)), (a2, .inl (cI, 49, .inl u)), (a3, .inl (cI, 49, .inl gg.im)), (a4, .inl (cI, 49, .inl mm.ws)), (a5, .inl (cI, 96, .inl gg.lt)), (a6, .inl (cI, 16, .inl gg.rw)), (a7, .inl (cI, 7, .inl gg.rf)), (a8, .inl (cI, 3, .inl mm.nb))]) (Wr := []) ⟨hx, hb, hml, hown, hts⟩ (kX4_softerBy l D cI H.size a0 a1 a2 a3 a4 a5 a6 a7 a8 gg (f, mm.ws, mm.nb, mm.pl, mm.sd) hG p0 p1 p0 (1 - x_16) p1 x_17 p2 w_2 w_6 v_13 ew_2 ew_6 (by omega) (by omega) ev_13 (by omega)) (cwV 7 hts gX4_two_X4_softerBy rfl rfl rfl hv_X4_softerBy ⟨Nat.le_of_ble_eq_true rfl, Nat.le_of_ble_eq_true rfl⟩) hK hP hD hS hA [0, 1, 2, 3, 4, 5, 6, 7, 8] [] [0, 1, 2, 3, 4, 5, 6, 7, 8] rfl rfl (by decide) (by decide) (by decide) (by decide) (fun u => rfl) 0 rfl rfl rfl hl.1 rfl (Nat.le_of_ble_eq_true rfl) dX4_two_77 ⟨Nat.zero_le _, Nat.zero_le _⟩ (fun r_18 u_18 H locs hw_18 hP hD hS => ?_)
        refine lv_aload_n hx hb dX4_two_80 rfl (lv_at hl 3 rfl) ?_
        refine lv_iload_n hx hb dX4_two_81 rfl (lv_at hl 4 rfl) ?_
        refine lv_iload_n hx hb dX4_two_82 rfl (lv_at hl 5 rfl) ?_
        refine lv_iload_n hx hb dX4_two_83 rfl (lv_at hl 4 rfl) ?_
        refine lv_iload hx hb dX4_two_84 (lv_at hl 1 rfl) ?_
        refine lv_iload_n hx hb dX4_two_86 rfl (lv_at hl 5 rfl) ?_
        refine lv_iload hx hb dX4_two_87 (lv_at hl 0 rfl) ?_
        refine lv_iload_n hx hb dX4_two_89 rfl (lv_at hl 6 rfl) ?_
        refine xw_Vi (As := [.int p0, .int p1, .int p0, .int x_16, .int p1, .int x_17, .int p2]) (rest := [.int r_18]) (Wn := fun u => [(a0, .inr (3, [.ref a1, .ref a2, .ref a3, .ref a4, .int gg.hs, .ref a5, .ref a6, .ref a7, .int (nI gg.L), .int (nI gg.M), .int mm.pl, .ref a8, .int mm.sd])), (a1, .inl (cI, 49, .inl gg.r)), (a2, .inl (cI, 49, .inl u)), (a3, .inl (cI, 49, .inl gg.im)), (a4, .inl (cI, 49, .inl mm.ws)), (a5, .inl (cI, 96, .inl gg.lt)), (a6, .inl (cI, 16, .inl gg.rw)), (a7, .inl (cI, 7, .inl gg.rf)), (a8, .inl (cI, 3, .inl mm.nb))]) (Wr := []) ⟨hx, hb, hml, hown, hts⟩ (kX4_softerBy l D cI H.size a0 a1 a2 a3 a4 a5 a6 a7 a8 gg (u_18, mm.ws, mm.nb, mm.pl, mm.sd) hG p0 p1 p0 x_16 p1 x_17 p2 w_2 w_6 v_13 ew_2 ew_6 (by omega) (by omega) ev_13 (by omega)) (cwV 7 hts gX4_two_X4_softerBy rfl rfl rfl hv_X4_softerBy ⟨Nat.le_of_ble_eq_true rfl, Nat.le_of_ble_eq_true rfl⟩) hK hP hD hS hA [0, 1, 2, 3, 4, 5, 6, 7, 8] [] [0, 1, 2, 3, 4, 5, 6, 7, 8] rfl rfl (by decide) (by decide) (by decide) (by decide) (fun u => rfl) 0 rfl rfl rfl hl.1 rfl (Nat.le_of_ble_eq_true rfl) dX4_two_90 ⟨Nat.zero_le _, Nat.zero_le _⟩ (fun r_19 u_19 H locs hw_19 hP hD hS => ?_)
        refine lv_icmp_gt (tgt := 136) hx hb dX4_two_93 (by decide) (fun c_20 => ?_) (fun c_20 => ?_)
        · skip
          have d_20 : ¬ r_18 ≤ r_19 := Int32.not_le.2 c_20
          obtain ⟨x_21, ex_21⟩ : ∃ z : Int32, z = x5 + 1 := ⟨_, rfl⟩
          refine lv_iinc (v := x_21) (lv' := [(5, .int x_21), (7, .int x_17), (6, .int x_16), (0, .ref a0), (1, .int p0), (2, .int p1), (3, .int p2)]) hx hb dX4_two_136 hl (k := 2) rfl (by rw [ex_21]; rfl) (by decide) rfl (fun ls hl => ?_)
          refine lv_goto (tgt := 47) hx hb dX4_two_139 (by decide) ?_
          exact ih_14 (i + 1) x_21 u_19 _ _ _ (by omega) (ni_add (a := i) (b := 1) ex_21 hx5 (rfl : (1 : Int32) = nI 1)) (by omega) (lt_s hj (by rw [twP, twX, twY, ← hx5, ← ex_17, ← ex_16, ← hw_18, ← hw_19]; simp only [decide_eq_false_iff_not]; intro q; exact absurd q.1 d_20)) hP hD hS (lv_sub hl [0, 3, 4, 5, 6] rfl)
        have d_20 : r_18 ≤ r_19 := Int32.not_lt.1 c_20
        refine lv_aload_n hx hb dX4_two_96 rfl (lv_at hl 3 rfl) ?_
        refine lv_iload_n hx hb dX4_two_97 rfl (lv_at hl 5 rfl) ?_
        refine lv_iload_n hx hb dX4_two_98 rfl (lv_at hl 4 rfl) ?_
        refine lv_iload_n hx hb dX4_two_99 rfl (lv_at hl 4 rfl) ?_
        refine lv_iload hx hb dX4_two_100 (lv_at hl 1 rfl) ?_
        refine lv_iload_n hx hb dX4_two_102 rfl (lv_at hl 5 rfl) ?_
        refine lv_iconst (v := 1) hx hb dX4_two_103 (by decide) ?_
        refine lv_iload hx hb dX4_two_104 (lv_at hl 0 rfl) ?_
        refine lv_isub hx hb dX4_two_106 ?_
        refine lv_iload_n hx hb dX4_two_107 rfl (lv_at hl 6 rfl) ?_
        refine xw_Vi (As := [.int p1, .int p0, .int p0, .int x_16, .int p1, .int (1 - x_17), .int p2]) (rest := []) (Wn := fun u => [(a0, .inr (3, [.ref a1, .ref a2, .ref a3, .ref a4, .int gg.hs, .ref a5, .ref a6, .ref a7, .int (nI gg.L), .int (nI gg.M), .int mm.pl, .ref a8, .int mm.sd])), (a1, .inl (cI, 49, .inl gg.r)), (a2, .inl (cI, 49, .inl u)), (a3, .inl (cI, 49, .inl gg.im)), (a4, .inl (cI, 49, .inl mm.ws)), (a5, .inl (cI, 96, .inl gg.lt)), (a6, .inl (cI, 16, .inl gg.rw)), (a7, .inl (cI, 7, .inl gg.rf)), (a8, .inl (cI, 3, .inl mm.nb))]) (Wr := []) ⟨hx, hb, hml, hown, hts⟩ (kX4_softerBy l D cI H.size a0 a1 a2 a3 a4 a5 a6 a7 a8 gg (u_19, mm.ws, mm.nb, mm.pl, mm.sd) hG p1 p0 p0 x_16 p1 (1 - x_17) p2 w_2 w_6 v_13 ew_2 ew_6 (by omega) (by omega) ev_13 (by omega)) (cwV 7 hts gX4_two_X4_softerBy rfl rfl rfl hv_X4_softerBy ⟨Nat.le_of_ble_eq_true rfl, Nat.le_of_ble_eq_true rfl⟩) hK hP hD hS hA [0, 1, 2, 3, 4, 5, 6, 7, 8] [] [0, 1, 2, 3, 4, 5, 6, 7, 8] rfl rfl (by decide) (by decide) (by decide) (by decide) (fun u => rfl) 0 rfl rfl rfl hl.1 rfl (Nat.le_of_ble_eq_true rfl) dX4_two_108 ⟨Nat.zero_le _, Nat.zero_le _⟩ (fun r_22 u_22 H locs hw_22 hP hD hS => ?_)
        refine lv_aload_n hx hb dX4_two_111 rfl (lv_at hl 3 rfl) ?_
        refine lv_iload_n hx hb dX4_two_112 rfl (lv_at hl 5 rfl) ?_
        refine lv_iload_n hx hb dX4_two_113 rfl (lv_at hl 4 rfl) ?_
        refine lv_iload_n hx hb dX4_two_114 rfl (lv_at hl 4 rfl) ?_
        refine lv_iload hx hb dX4_two_115 (lv_at hl 1 rfl) ?_
        refine lv_iload_n hx hb dX4_two_117 rfl (lv_at hl 5 rfl) ?_
        refine lv_iload hx hb dX4_two_118 (lv_at hl 0 rfl) ?_
        refine lv_iload_n hx hb dX4_two_120 rfl (lv_at hl 6 rfl) ?_
        refine xw_Vi (As := [.int p1, .int p0, .int p0, .int x_16, .int p1, .int x_17, .int p2]) (rest := [.int r_22]) (Wn := fun u => [(a0, .inr (3, [.ref a1, .ref a2, .ref a3, .ref a4, .int gg.hs, .ref a5, .ref a6, .ref a7, .int (nI gg.L), .int (nI gg.M), .int mm.pl, .ref a8, .int mm.sd])), (a1, .inl (cI, 49, .inl gg.r)), (a2, .inl (cI, 49, .inl u)), (a3, .inl (cI, 49, .inl gg.im)), (a4, .inl (cI, 49, .inl mm.ws)), (a5, .inl (cI, 96, .inl gg.lt)), (a6, .inl (cI, 16, .inl gg.rw)), (a7, .inl (cI, 7, .inl gg.rf)), (a8, .inl (cI, 3, .inl mm.nb))]) (Wr := []) ⟨hx, hb, hml, hown, hts⟩ (kX4_softerBy l D cI H.size a0 a1 a2 a3 a4 a5 a6 a7 a8 gg (u_22, mm.ws, mm.nb, mm.pl, mm.sd) hG p1 p0 p0 x_16 p1 x_17 p2 w_2 w_6 v_13 ew_2 ew_6 (by omega) (by omega) ev_13 (by omega)) (cwV 7 hts gX4_two_X4_softerBy rfl rfl rfl hv_X4_softerBy ⟨Nat.le_of_ble_eq_true rfl, Nat.le_of_ble_eq_true rfl⟩) hK hP hD hS hA [0, 1, 2, 3, 4, 5, 6, 7, 8] [] [0, 1, 2, 3, 4, 5, 6, 7, 8] rfl rfl (by decide) (by decide) (by decide) (by decide) (fun u => rfl) 0 rfl rfl rfl hl.1 rfl (Nat.le_of_ble_eq_true rfl) dX4_two_121 ⟨Nat.zero_le _, Nat.zero_le _⟩ (fun r_23 u_23 H locs hw_23 hP hD hS => ?_)
        refine lv_icmp_gt (tgt := 136) hx hb dX4_two_124 (by decide) (fun c_24 => ?_) (fun c_24 => ?_)
        · skip
          have d_24 : ¬ r_22 ≤ r_23 := Int32.not_le.2 c_24
          obtain ⟨x_25, ex_25⟩ : ∃ z : Int32, z = x5 + 1 := ⟨_, rfl⟩
          refine lv_iinc (v := x_25) (lv' := [(5, .int x_25), (7, .int x_17), (6, .int x_16), (0, .ref a0), (1, .int p0), (2, .int p1), (3, .int p2)]) hx hb dX4_two_136 hl (k := 2) rfl (by rw [ex_25]; rfl) (by decide) rfl (fun ls hl => ?_)
          refine lv_goto (tgt := 47) hx hb dX4_two_139 (by decide) ?_
          exact ih_14 (i + 1) x_25 u_23 _ _ _ (by omega) (ni_add (a := i) (b := 1) ex_25 hx5 (rfl : (1 : Int32) = nI 1)) (by omega) (lt_s hj (by rw [twP, twX, twY, ← hx5, ← ex_17, ← ex_16, ← hw_18, ← hw_19, ← hw_22, ← hw_23]; simp only [decide_eq_false_iff_not]; intro q; exact absurd q.2 d_24)) hP hD hS (lv_sub hl [0, 3, 4, 5, 6] rfl)
        have d_24 : r_22 ≤ r_23 := Int32.not_lt.1 c_24
        refine lv_bipush (v := 10) hx hb dX4_two_127 (by decide) ?_
        refine lv_iload hx hb dX4_two_129 (lv_at hl 1 rfl) ?_
        refine lv_imul hx hb dX4_two_131 ?_
        refine lv_iload hx hb dX4_two_132 (lv_at hl 0 rfl) ?_
        refine lv_iadd hx hb dX4_two_134 ?_
        exact hret 135 _ ((10 * x_16) + x_17) (gg, (u_23, mm.ws, mm.nb, mm.pl, mm.sd)) _ _ dX4_two_135 (by have e9 : ff (twP gg.r gg.n v_13 p0 p1) 4 = i := ff_eq (by omega) (by rw [twP, twX, twY, ← hx5, ← ex_17, ← ex_16, ← hw_18, ← hw_19, ← hw_22, ← hw_23]; simp only [decide_eq_true_eq]; exact ⟨d_20, d_24⟩) hj; have e7 : i < 4 := (by omega); simp [sp_two, e9, e7, twX, twY, ← hx5, ex_17, ex_16, hb_2, hb_6, hv_13, tn_13, c_9]) hP hD hS
    exact lp_47_14 ((4 - 0) + 1) 0 0 mm.m _ _ _ (by omega) (rfl : (0 : Int32) = nI 0) (by omega) (fun j hj => absurd hj (Nat.not_lt_zero _)) hP hD hS (lv_sub hl [0, 2, 3, 4, 5] rfl)
  have hv_13 : ¬ wrB p2 0 30 = 0 := fun q => c_13 (hr_12.trans q)
  refine lv_aload_n hx hb dX4_two_37 rfl (lv_at hl 1 rfl) ?_
  refine lv_iload hx hb dX4_two_38 (lv_at hl 0 rfl) ?_
  refine xw_Vi (As := [.int r_12]) (rest := []) (Wn := fun u => [(a0, .inr (3, [.ref a1, .ref a2, .ref a3, .ref a4, .int gg.hs, .ref a5, .ref a6, .ref a7, .int (nI gg.L), .int (nI gg.M), .int mm.pl, .ref a8, .int mm.sd])), (a1, .inl (cI, 49, .inl gg.r)), (a2, .inl (cI, 49, .inl mm.m)), (a3, .inl (cI, 49, .inl gg.im)), (a4, .inl (cI, 49, .inl mm.ws)), (a5, .inl (cI, 96, .inl gg.lt)), (a6, .inl (cI, 16, .inl gg.rw)), (a7, .inl (cI, 7, .inl (upd gg.rf (cN r_12) (gg.rf (cN r_12) + 1)))), (a8, .inl (cI, 3, .inl mm.nb))]) (Wr := [(a1, .inl (cI, 49, .inl gg.r)), (a2, .inl (cI, 49, .inl mm.m)), (a3, .inl (cI, 49, .inl gg.im)), (a4, .inl (cI, 49, .inl mm.ws)), (a5, .inl (cI, 96, .inl gg.lt)), (a6, .inl (cI, 16, .inl gg.rw)), (a8, .inl (cI, 3, .inl mm.nb))]) ⟨hx, hb, hml, hown, hts⟩ (kX4_no l D cI H.size a0 a1 a2 a3 a4 a5 a6 a7 a8 gg mm r_12 (okc_of hr_12 c_13)) (cwV 1 hts gX4_two_X4_no rfl rfl rfl hv_X4_no ⟨Nat.le_of_ble_eq_true rfl, Nat.le_of_ble_eq_true rfl⟩) hK hP hD hS hA [0, 7] [1, 2, 3, 4, 5, 6, 8] [7, 0, 1, 2, 3, 4, 5, 8, 6] rfl rfl (by decide) (by decide) (by decide) (by decide) (fun u => rfl) 0 rfl rfl rfl hl.1 rfl (Nat.le_of_ble_eq_true rfl) dX4_two_40 ⟨Nat.zero_le _, Nat.zero_le _⟩ (fun r_26 u_26 H locs hw_26 hP hD hS => ?_)
  exact hret 43 _ r_26 ((gg.n, gg.r, gg.m, gg.im, gg.hs, gg.lt, gg.L, gg.rw, gg.M, (upd gg.rf (cN r_12) (gg.rf (cN r_12) + 1))), mm) _ _ dX4_two_43 (by first | (simp [sp_two, rfz, us, c_2, c_6, c_9, c_13, hb_2, hb_6, n_9, hv_13, hw_26, hr_12]; done) | (simp [sp_two, rfz, us, c_2, c_6, c_9, c_13, hb_2, hb_6, n_9, hv_13, hw_26, hr_12, isI]; done) | (simp [sp_two, rfz, us, c_2, c_6, c_9, c_13, hb_2, hb_6, n_9, hv_13, hw_26, hr_12, wrB, lackF]; done)) hP hD hS


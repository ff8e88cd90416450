theorem hs_X4_gcd : yX4_gcd.cls ≠ "java/lang/invoke/MethodHandle" ∧ yX4_gcd.cls ≠ "java/lang/invoke/VarHandle" ∧ (parseMethodDescriptor yX4_gcd.desc).map (fun d => d.parameters.length) = some 2 := by decide +kernel
theorem hs_X4_partOf : yX4_partOf.cls ≠ "java/lang/invoke/MethodHandle" ∧ yX4_partOf.cls ≠ "java/lang/invoke/VarHandle" ∧ (parseMethodDescriptor yX4_partOf.desc).map (fun d => d.parameters.length) = some 3 := by decide +kernel
theorem hs_X4_rain : yX4_rain.cls ≠ "java/lang/invoke/MethodHandle" ∧ yX4_rain.cls ≠ "java/lang/invoke/VarHandle" ∧ (parseMethodDescriptor yX4_rain.desc).map (fun d => d.parameters.length) = some 4 := by decide +kernel
theorem hv_X4_rain : yX4_rain.cls = RX4 ∧ yX4_rain.cls ≠ "java/lang/invoke/MethodHandle" ∧ yX4_rain.cls ≠ "java/lang/invoke/VarHandle" ∧ (parseMethodDescriptor yX4_rain.desc).map (fun d => d.parameters.length) = some 4 := ⟨rfl, hs_X4_rain⟩
theorem hs_X4_mean : yX4_mean.cls ≠ "java/lang/invoke/MethodHandle" ∧ yX4_mean.cls ≠ "java/lang/invoke/VarHandle" ∧ (parseMethodDescriptor yX4_mean.desc).map (fun d => d.parameters.length) = some 1 := by decide +kernel
theorem hv_X4_mean : yX4_mean.cls = RX4 ∧ yX4_mean.cls ≠ "java/lang/invoke/MethodHandle" ∧ yX4_mean.cls ≠ "java/lang/invoke/VarHandle" ∧ (parseMethodDescriptor yX4_mean.desc).map (fun d => d.parameters.length) = some 1 := ⟨rfl, hs_X4_mean⟩
set_option maxHeartbeats 4000000 in
set_option maxRecDepth 100000 in
theorem kX4_gcd (l : Launch) (D : va_G) (cI : ClassId) (x0 y0 : Nat) (p0 p1 : Int64) (hp0 : p0 = nL x0) (hp1 : p1 = nL y0) (hx0 : x0 < 2 ^ 62) (hy0 : y0 < 2 ^ 62) : Met l yX4_gcd wsX4_gcd ({ frames := 0, cells := 0, slots := 0, locals := 0 }) (PRO D cI [.long p0, .long p1] []) (vp_Sl (fun v => v = nL (Nat.gcd x0 y0))) 0 0 (fun _ => False) := by
  refine st_rol (cc := cX4_gcd) (maxL := 10) (by decide) rfl (Nat.le_of_ble_eq_true rfl) ?_
  intro p e s m below meth c Q ls hx hb hml hts hown hP hK hl hret
  replace hown : s.vm.findClass RX4 = some m.cls := hown
  replace hl : lv_has ls 10 [(0, .long p0), (2, .long p1)] := hl
  refine lv_lload_n hx hb dX4_gcd_0 rfl (lv_at hl 0 rfl) ?_
  refine lv_lstore (lv' := [(4, .long p0), (0, .long p0), (2, .long p1)]) hx hb dX4_gcd_1 hl (by decide) rfl (fun ls hl => ?_)
  refine lv_lload_n hx hb dX4_gcd_3 rfl (lv_at hl 2 rfl) ?_
  refine lv_lstore (lv' := [(6, .long p1), (4, .long p0), (0, .long p0), (2, .long p1)]) hx hb dX4_gcd_4 hl (by decide) rfl (fun ls hl => ?_)
  have lp_6_1 : ∀ (fu : Nat) (a : Nat) (b : Nat) (x6 : Int64) (x4 : Int64) (ls : Array Slot), b < fu → (x4 = nL a) → (x6 = nL b) → (a < 2 ^ 62) → (b < 2 ^ 62) → (Nat.gcd a b = Nat.gcd x0 y0) → lv_has ls 10 [(6, .long x6), (4, .long x4)] → W p l e ({ frames := 0, cells := 0, slots := 0, locals := 0 }) s m [.long p0, .long p1].toArray below meth c s.heap [] 0 0 Q (F0 m 6 ls []) := by
    intro fu
    induction fu with
    | zero =>
      intro a b x6 x4 ls hfu
      exact absurd hfu (Nat.not_lt_zero _)
    | succ fu ih_1 =>
      intro a b x6 x4 ls hfu h4 h6 ha9 hb9 hg hl
      refine lv_lload hx hb dX4_gcd_6 (lv_at hl 0 rfl) ?_
      refine lv_lconst (v := 0) hx hb dX4_gcd_8 (by decide) ?_
      refine W.lcmp hx hb dX4_gcd_9 ?_
      refine lv_if_eq (tgt := 31) hx hb dX4_gcd_10 (by decide) (fun c_2 => ?_) (fun c_2 => ?_)
      · skip
        have hb0 : b = 0 := (nL_eq0 (by omega)).1 (h6.symm.trans (lc_eq.1 c_2))
        refine lv_lload hx hb dX4_gcd_31 (lv_at hl 1 rfl) ?_
        exact hret 33 _ x4 dX4_gcd_33 (by rw [← hg, hb0, Nat.gcd_zero_right]; exact h4)
      have hb0 : ¬ x6 = 0 := fun q => c_2 (lc_eq.2 q)
      have hb1 : 0 < b := by rcases Nat.eq_zero_or_pos b with q | q; exact absurd (by rw [h6, q]; rfl) hb0; exact q
      refine lv_lload hx hb dX4_gcd_13 (lv_at hl 1 rfl) ?_
      refine lv_lload hx hb dX4_gcd_15 (lv_at hl 0 rfl) ?_
      refine lv_lrem hx hb dX4_gcd_17 hb0 ?_
      refine lv_topl (fun y_3 ey_3 => ?_)
      refine lv_lstore (lv' := [(8, .long y_3), (6, .long x6), (4, .long x4)]) hx hb dX4_gcd_18 hl (by decide) rfl (fun ls hl => ?_)
      refine lv_lload hx hb dX4_gcd_20 (lv_at hl 1 rfl) ?_
      refine lv_lstore (lv' := [(4, .long x6), (8, .long y_3), (6, .long x6)]) hx hb dX4_gcd_22 hl (by decide) rfl (fun ls hl => ?_)
      refine lv_lload hx hb dX4_gcd_24 (lv_at hl 1 rfl) ?_
      refine lv_lstore (lv' := [(6, .long y_3), (4, .long x6), (8, .long y_3)]) hx hb dX4_gcd_26 hl (by decide) rfl (fun ls hl => ?_)
      refine lv_goto (tgt := 6) hx hb dX4_gcd_28 (by decide) ?_
      exact ih_1 b (a % b) y_3 x6 _ (by have := Nat.mod_lt a hb1; omega) h6 (by rw [ey_3, h4, h6]; exact nL_rem (by omega) (by omega) hb1) hb9 (by have := Nat.mod_lt a hb1; omega) ((gcd_step a b).trans hg) (lv_sub hl [0, 1] rfl)
  exact lp_6_1 ((y0) + 1) x0 y0 p1 p0 _ (by omega) hp0 hp1 hx0 hy0 rfl (lv_sub hl [0, 1] rfl)

set_option maxHeartbeats 4000000 in
set_option maxRecDepth 100000 in
theorem kX4_partOf (l : Launch) (D : va_G) (cI : ClassId) (x0 y0 : Nat) (p0 p1 : Int64) (p2 : Int32) (hp0 : p0 = nL x0) (hp1 : p1 = nL y0) (hx0 : x0 < 2 ^ 62) (hy0 : y0 < 2 ^ 62) : Met l yX4_partOf wsX4_partOf ({ frames := 1, cells := 0, slots := 0, locals := 29 }) (PRO D cI [.long p0, .long p1, .int p2] []) (vp_Sl (fun v => v = ptN x0 y0 p2)) 0 0 (fun _ => False) := by
  refine st_rol (cc := cX4_partOf) (maxL := 5) (by decide) rfl (Nat.le_of_ble_eq_true rfl) ?_
  intro p e s m below meth c Q ls hx hb hml hts hown hP hK hl hret
  replace hown : s.vm.findClass RX4 = some m.cls := hown
  replace hl : lv_has ls 5 [(0, .long p0), (2, .long p1), (4, .int p2)] := hl
  refine lv_lload_n hx hb dX4_partOf_0 rfl (lv_at hl 0 rfl) ?_
  refine lv_lconst (v := 0) hx hb dX4_partOf_1 (by decide) ?_
  refine W.lcmp hx hb dX4_partOf_2 ?_
  refine lv_if_ne (tgt := 10) hx hb dX4_partOf_3 (by decide) (fun c_1 => ?_) (fun c_1 => ?_)
  · skip
    have hz : ¬ x0 = 0 := fun q => c_1 (lc_eq.2 (by rw [hp0, q]; rfl))
    refine lv_iload hx hb dX4_partOf_10 (lv_at hl 2 rfl) ?_
    refine lv_if_ne (tgt := 19) hx hb dX4_partOf_12 (by decide) (fun c_2 => ?_) (fun c_2 => ?_)
    · skip
      refine lv_lload_n hx hb dX4_partOf_19 rfl (lv_at hl 1 rfl) ?_
      refine lv_lload_n hx hb dX4_partOf_20 rfl (lv_at hl 0 rfl) ?_
      refine lv_lload_n hx hb dX4_partOf_21 rfl (lv_at hl 1 rfl) ?_
      refine xc_Sl (As := [.long p0, .long p1]) (rest := [.long p1]) ⟨hx, hb, hml, hown, hts⟩ (kX4_gcd l D cI x0 y0 p0 p1 hp0 hp1 hx0 hy0) (va_cwS 2 hts gX4_partOf_X4_gcd rfl rfl rfl hs_X4_gcd ⟨Nat.le_of_ble_eq_true rfl, Nat.le_of_ble_eq_true rfl⟩) hK hP [] rfl rfl hl.1 rfl (Nat.le_of_ble_eq_true rfl) dX4_partOf_22 ⟨Nat.zero_le _, Nat.zero_le _⟩ (fun r_3 hr_3 => ?_)
      have hgp : 0 < Nat.gcd x0 y0 := Nat.gcd_pos_of_pos_left _ (Nat.pos_of_ne_zero hz)
      have hgl : Nat.gcd x0 y0 ≤ x0 := Nat.le_of_dvd (Nat.pos_of_ne_zero hz) (Nat.gcd_dvd_left _ _)
      have hne : ¬ r_3 = 0 := fun q => by rw [hr_3, nL_eq0 (by omega)] at q; omega
      refine lv_ldiv hx hb dX4_partOf_25 hne ?_
      exact hret 26 _ (p1 / r_3) dX4_partOf_26 (by rw [ptN, if_neg hz, hr_3, hp1, nL_div (by omega) (by omega) hgp]; simp [c_2])
    refine lv_lload_n hx hb dX4_partOf_15 rfl (lv_at hl 0 rfl) ?_
    refine lv_goto (tgt := 20) hx hb dX4_partOf_16 (by decide) ?_
    refine lv_lload_n hx hb dX4_partOf_20 rfl (lv_at hl 0 rfl) ?_
    refine lv_lload_n hx hb dX4_partOf_21 rfl (lv_at hl 1 rfl) ?_
    refine xc_Sl (As := [.long p0, .long p1]) (rest := [.long p0]) ⟨hx, hb, hml, hown, hts⟩ (kX4_gcd l D cI x0 y0 p0 p1 hp0 hp1 hx0 hy0) (va_cwS 2 hts gX4_partOf_X4_gcd rfl rfl rfl hs_X4_gcd ⟨Nat.le_of_ble_eq_true rfl, Nat.le_of_ble_eq_true rfl⟩) hK hP [] rfl rfl hl.1 rfl (Nat.le_of_ble_eq_true rfl) dX4_partOf_22 ⟨Nat.zero_le _, Nat.zero_le _⟩ (fun r_4 hr_4 => ?_)
    have hgp : 0 < Nat.gcd x0 y0 := Nat.gcd_pos_of_pos_left _ (Nat.pos_of_ne_zero hz)
    have hgl : Nat.gcd x0 y0 ≤ x0 := Nat.le_of_dvd (Nat.pos_of_ne_zero hz) (Nat.gcd_dvd_left _ _)
    have hne : ¬ r_4 = 0 := fun q => by rw [hr_4, nL_eq0 (by omega)] at q; omega
    refine lv_ldiv hx hb dX4_partOf_25 hne ?_
    exact hret 26 _ (p0 / r_4) dX4_partOf_26 (by rw [ptN, if_neg hz, hr_4, hp0, nL_div (by omega) (by omega) hgp]; simp [c_2])
  have hz : x0 = 0 := (nL_eq0 (by omega)).1 (hp0.symm.trans (lc_eq.1 c_1))
  refine lv_iload hx hb dX4_partOf_6 (lv_at hl 2 rfl) ?_
  refine lv_i2l (v := p2.toInt64) hx hb dX4_partOf_8 rfl ?_
  exact hret 9 _ p2.toInt64 dX4_partOf_9 (by rw [ptN, if_pos hz])

set_option maxHeartbeats 4000000 in
set_option maxRecDepth 100000 in
theorem kX4_rain (l : Launch) (D : va_G) (cI : ClassId) (sz : Nat) (a0 a1 a2 a3 a4 a5 a6 a7 a8 : Nat) (gg : GG) (mm : MS) (hG : Good gg) (p0 p1 p2 p3 : Int32) : Met l yX4_rain wsX4_rain ({ frames := 6, cells := 0, slots := 0, locals := 132 }) (PRW D cI [.ref a0, .int p0, .int p1, .int p2, .int p3] [(a0, .inr (3, [.ref a1, .ref a2, .ref a3, .ref a4, .int gg.hs, .ref a5, .ref a6, .ref a7, .int (nI gg.L), .int (nI gg.M), .int mm.pl, .ref a8, .int mm.sd])), (a1, .inl (cI, 49, .inl gg.r)), (a2, .inl (cI, 49, .inl mm.m)), (a3, .inl (cI, 49, .inl gg.im)), (a4, .inl (cI, 49, .inl mm.ws)), (a5, .inl (cI, 96, .inl gg.lt)), (a6, .inl (cI, 16, .inl gg.rw)), (a7, .inl (cI, 7, .inl gg.rf)), (a8, .inl (cI, 3, .inl mm.nb))] sz) (va_Ql (S := GG × MS) (fun v u => (v, u.1) = sp_rain gg p0 p1 p2 p3) (BRW D [(a0, .inr (3, [.ref a1, .ref a2, .ref a3, .ref a4, .int gg.hs, .ref a5, .ref a6, .ref a7, .int (nI gg.L), .int (nI gg.M), .int mm.pl, .ref a8, .int mm.sd])), (a1, .inl (cI, 49, .inl gg.r)), (a2, .inl (cI, 49, .inl mm.m)), (a3, .inl (cI, 49, .inl gg.im)), (a4, .inl (cI, 49, .inl mm.ws)), (a5, .inl (cI, 96, .inl gg.lt)), (a6, .inl (cI, 16, .inl gg.rw)), (a7, .inl (cI, 7, .inl gg.rf)), (a8, .inl (cI, 3, .inl mm.nb))] sz (fun u => [(a0, .inr (3, [.ref a1, .ref a2, .ref a3, .ref a4, .int u.1.hs, .ref a5, .ref a6, .ref a7, .int (nI u.1.L), .int (nI u.1.M), .int u.2.pl, .ref a8, .int u.2.sd])), (a1, .inl (cI, 49, .inl u.1.r)), (a2, .inl (cI, 49, .inl u.2.m)), (a3, .inl (cI, 49, .inl u.1.im)), (a4, .inl (cI, 49, .inl u.2.ws)), (a5, .inl (cI, 96, .inl u.1.lt)), (a6, .inl (cI, 16, .inl u.1.rw)), (a7, .inl (cI, 7, .inl u.1.rf)), (a8, .inl (cI, 3, .inl u.2.nb))])) (va_A [(a0, .inr (3, [.ref a1, .ref a2, .ref a3, .ref a4, .int gg.hs, .ref a5, .ref a6, .ref a7, .int (nI gg.L), .int (nI gg.M), .int mm.pl, .ref a8, .int mm.sd])), (a1, .inl (cI, 49, .inl gg.r)), (a2, .inl (cI, 49, .inl mm.m)), (a3, .inl (cI, 49, .inl gg.im)), (a4, .inl (cI, 49, .inl mm.ws)), (a5, .inl (cI, 96, .inl gg.lt)), (a6, .inl (cI, 16, .inl gg.rw)), (a7, .inl (cI, 7, .inl gg.rf)), (a8, .inl (cI, 3, .inl mm.nb))] sz)) 0 0 (va_A [(a0, .inr (3, [.ref a1, .ref a2, .ref a3, .ref a4, .int gg.hs, .ref a5, .ref a6, .ref a7, .int (nI gg.L), .int (nI gg.M), .int mm.pl, .ref a8, .int mm.sd])), (a1, .inl (cI, 49, .inl gg.r)), (a2, .inl (cI, 49, .inl mm.m)), (a3, .inl (cI, 49, .inl gg.im)), (a4, .inl (cI, 49, .inl mm.ws)), (a5, .inl (cI, 96, .inl gg.lt)), (a6, .inl (cI, 16, .inl gg.rw)), (a7, .inl (cI, 7, .inl gg.rf)), (a8, .inl (cI, 3, .inl mm.nb))] sz) := by
  refine st_rwl (cc := cX4_rain) (maxL := 14) (by decide) rfl (Nat.le_of_ble_eq_true rfl) ?_
  intro p e s m below meth c Q ls A hx hb hml hts hown hP hK hD hA hS hl hret
  replace hown : s.vm.findClass RX4 = some m.cls := hown
  replace hl : lv_has ls 14 [(0, .ref a0), (1, .int p0), (2, .int p1), (3, .int p2), (4, .int p3)] := hl
  obtain ⟨H, hH⟩ : ∃ z, z = s.heap := ⟨_, rfl⟩
  obtain ⟨locs, hlo⟩ : ∃ z : List Loc, z = [] := ⟨_, rfl⟩
  replace hP : va_P D vwCl [(a0, .inr (3, [.ref a1, .ref a2, .ref a3, .ref a4, .int gg.hs, .ref a5, .ref a6, .ref a7, .int (nI gg.L), .int (nI gg.M), .int mm.pl, .ref a8, .int mm.sd])), (a1, .inl (cI, 49, .inl gg.r)), (a2, .inl (cI, 49, .inl mm.m)), (a3, .inl (cI, 49, .inl gg.im)), (a4, .inl (cI, 49, .inl mm.ws)), (a5, .inl (cI, 96, .inl gg.lt)), (a6, .inl (cI, 16, .inl gg.rw)), (a7, .inl (cI, 7, .inl gg.rf)), (a8, .inl (cI, 3, .inl mm.nb))] H := by rw [hH]; exact hP
  replace hS : va_S A s.heap H locs := by rw [hH, hlo]; exact hS
  show W p l e ({ frames := 6, cells := 0, slots := 0, locals := 132 }) s m [.ref a0, .int p0, .int p1, .int p2, .int p3].toArray below meth c s.heap [] 0 0 Q (F0 m 0 ls [])
  rw [← hlo]
  suffices hgo : W p l e ({ frames := 6, cells := 0, slots := 0, locals := 132 }) s m [.ref a0, .int p0, .int p1, .int p2, .int p3].toArray below meth c H locs 0 0 Q (F0 m 0 ls []) by rw [hH] at hgo; exact hgo
  clear hH hlo
  have hi_X4 : ∀ w ∈ wsX40, w ∈ wsX4_rain := fun w h => List.mem_cons_of_mem _ (List.mem_append_right _ (h))
  have hk_9 := hts (.fieldLink RX4 9 "NestsOfTalkModel" "s" "[I") (List.mem_of_getElem? (i := 1) rfl)
  have hk_13 := hts (.fieldLink RX4 13 "NestsOfTalkModel" "m" "[I") (List.mem_of_getElem? (i := 2) rfl)
  have hI := hG.inv
  have hn9 := hI.le
  have hL96 := hG.L96
  have hM16 := hG.M16
  refine lv_iload_n hx hb dX4_rain_0 rfl (lv_at hl 1 rfl) ?_
  refine xc_Si (As := [.int p0]) (rest := []) ⟨hx, hb, hml, hown, hts⟩ (kX4_isWoman l D cI p0) (va_cwS 1 hts gX4_rain_X4_isWoman rfl rfl rfl hs_X4_isWoman ⟨Nat.le_of_ble_eq_true rfl, Nat.le_of_ble_eq_true rfl⟩) hK hP [] rfl rfl hl.1 rfl (Nat.le_of_ble_eq_true rfl) dX4_rain_1 ⟨Nat.zero_le _, Nat.zero_le _⟩ (fun r_1 hr_1 => ?_)
  refine lv_if_ne (tgt := 13) hx hb dX4_rain_4 (by decide) (fun c_2 => ?_) (fun c_2 => ?_)
  · skip
    have hb_2 : womB p0 = true := bool_t hr_1 c_2
    obtain ⟨w_2, hw_2, ew_2⟩ := womB_iff.1 hb_2
    refine lv_iload_n hx hb dX4_rain_13 rfl (lv_at hl 2 rfl) ?_
    refine lv_if_lt (tgt := 22) hx hb dX4_rain_14 (by decide) (fun c_3 => ?_) (fun c_3 => ?_)
    · skip
      have d_3 : ¬ 0 ≤ p1 := Int32.not_le.2 c_3
      refine lv_aload_n hx hb dX4_rain_22 rfl (lv_at hl 0 rfl) ?_
      refine lv_bipush (v := (-4)) hx hb dX4_rain_23 (by decide) ?_
      refine xw_Vl (As := [.int (-4)]) (rest := []) (Wn := fun u => [(a0, .inr (3, [.ref a1, .ref a2, .ref a3, .ref a4, .int gg.hs, .ref a5, .ref a6, .ref a7, .int (nI gg.L), .int (nI gg.M), .int mm.pl, .ref a8, .int mm.sd])), (a1, .inl (cI, 49, .inl gg.r)), (a2, .inl (cI, 49, .inl mm.m)), (a3, .inl (cI, 49, .inl gg.im)), (a4, .inl (cI, 49, .inl mm.ws)), (a5, .inl (cI, 96, .inl gg.lt)), (a6, .inl (cI, 16, .inl gg.rw)), (a7, .inl (cI, 7, .inl (upd gg.rf (cN (-4)) (gg.rf (cN (-4)) + 1)))), (a8, .inl (cI, 3, .inl mm.nb))]) (Wr := [(a1, .inl (cI, 49, .inl gg.r)), (a2, .inl (cI, 49, .inl mm.m)), (a3, .inl (cI, 49, .inl gg.im)), (a4, .inl (cI, 49, .inl mm.ws)), (a5, .inl (cI, 96, .inl gg.lt)), (a6, .inl (cI, 16, .inl gg.rw)), (a8, .inl (cI, 3, .inl mm.nb))]) ⟨hx, hb, hml, hown, hts⟩ (kX4_noWide l D cI H.size a0 a1 a2 a3 a4 a5 a6 a7 a8 gg mm (-4) okc_4) (cwV 1 hts gX4_rain_X4_noWide rfl rfl rfl hv_X4_noWide ⟨Nat.le_of_ble_eq_true rfl, Nat.le_of_ble_eq_true rfl⟩) hK hP hD hS hA [0, 7] [1, 2, 3, 4, 5, 6, 8] [7, 0, 1, 2, 3, 4, 5, 8, 6] rfl rfl (by decide) (by decide) (by decide) (by decide) (fun u => rfl) 0 rfl rfl rfl hl.1 rfl (Nat.le_of_ble_eq_true rfl) dX4_rain_25 ⟨Nat.zero_le _, Nat.zero_le _⟩ (fun r_4 u_4 H locs hw_4 hP hD hS => ?_)
      exact hret 28 _ r_4 ((gg.n, gg.r, gg.m, gg.im, gg.hs, gg.lt, gg.L, gg.rw, gg.M, (upd gg.rf (cN (-4)) (gg.rf (cN (-4)) + 1))), mm) _ _ dX4_rain_28 (by first | (simp [sp_rain, rfzL, rfz, us, c_2, c_3, hb_2, hw_4]; done) | (simp [sp_rain, rfzL, rfz, us, c_2, c_3, hb_2, hw_4, isI]; done)) hP hD hS
    have d_3 : 0 ≤ p1 := Int32.not_lt.1 c_3
    refine lv_iload_n hx hb dX4_rain_17 rfl (lv_at hl 3 rfl) ?_
    refine lv_iconst (v := 2) hx hb dX4_rain_18 (by decide) ?_
    refine lv_icmp_ge (tgt := 29) hx hb dX4_rain_19 (by decide) (fun c_5 => ?_) (fun c_5 => ?_)
    · skip
      have d_5 : ¬ p2 < 2 := Int32.not_lt.2 c_5
      refine lv_iload_n hx hb dX4_rain_29 rfl (lv_at hl 2 rfl) ?_
      refine lv_bipush (v := 7) hx hb dX4_rain_30 (by decide) ?_
      refine lv_icmp_gt (tgt := 41) hx hb dX4_rain_32 (by decide) (fun c_6 => ?_) (fun c_6 => ?_)
      · skip
        have d_6 : ¬ p1 ≤ 7 := Int32.not_le.2 c_6
        refine lv_aload_n hx hb dX4_rain_41 rfl (lv_at hl 0 rfl) ?_
        refine lv_bipush (v := (-6)) hx hb dX4_rain_42 (by decide) ?_
        refine xw_Vl (As := [.int (-6)]) (rest := []) (Wn := fun u => [(a0, .inr (3, [.ref a1, .ref a2, .ref a3, .ref a4, .int gg.hs, .ref a5, .ref a6, .ref a7, .int (nI gg.L), .int (nI gg.M), .int mm.pl, .ref a8, .int mm.sd])), (a1, .inl (cI, 49, .inl gg.r)), (a2, .inl (cI, 49, .inl mm.m)), (a3, .inl (cI, 49, .inl gg.im)), (a4, .inl (cI, 49, .inl mm.ws)), (a5, .inl (cI, 96, .inl gg.lt)), (a6, .inl (cI, 16, .inl gg.rw)), (a7, .inl (cI, 7, .inl (upd gg.rf (cN (-6)) (gg.rf (cN (-6)) + 1)))), (a8, .inl (cI, 3, .inl mm.nb))]) (Wr := [(a1, .inl (cI, 49, .inl gg.r)), (a2, .inl (cI, 49, .inl mm.m)), (a3, .inl (cI, 49, .inl gg.im)), (a4, .inl (cI, 49, .inl mm.ws)), (a5, .inl (cI, 96, .inl gg.lt)), (a6, .inl (cI, 16, .inl gg.rw)), (a8, .inl (cI, 3, .inl mm.nb))]) ⟨hx, hb, hml, hown, hts⟩ (kX4_noWide l D cI H.size a0 a1 a2 a3 a4 a5 a6 a7 a8 gg mm (-6) okc_6) (cwV 1 hts gX4_rain_X4_noWide rfl rfl rfl hv_X4_noWide ⟨Nat.le_of_ble_eq_true rfl, Nat.le_of_ble_eq_true rfl⟩) hK hP hD hS hA [0, 7] [1, 2, 3, 4, 5, 6, 8] [7, 0, 1, 2, 3, 4, 5, 8, 6] rfl rfl (by decide) (by decide) (by decide) (by decide) (fun u => rfl) 0 rfl rfl rfl hl.1 rfl (Nat.le_of_ble_eq_true rfl) dX4_rain_44 ⟨Nat.zero_le _, Nat.zero_le _⟩ (fun r_7 u_7 H locs hw_7 hP hD hS => ?_)
        exact hret 47 _ r_7 ((gg.n, gg.r, gg.m, gg.im, gg.hs, gg.lt, gg.L, gg.rw, gg.M, (upd gg.rf (cN (-6)) (gg.rf (cN (-6)) + 1))), mm) _ _ dX4_rain_47 (by first | (simp [sp_rain, rfzL, rfz, us, c_2, c_3, c_5, c_6, hb_2, hw_7]; done) | (simp [sp_rain, rfzL, rfz, us, c_2, c_3, c_5, c_6, hb_2, hw_7, isI]; done)) hP hD hS
      have d_6 : p1 ≤ 7 := Int32.not_lt.1 c_6
      refine lv_iload_n hx hb dX4_rain_35 rfl (lv_at hl 3 rfl) ?_
      refine lv_bipush (v := 20) hx hb dX4_rain_36 (by decide) ?_
      refine lv_icmp_le (tgt := 48) hx hb dX4_rain_38 (by decide) (fun c_8 => ?_) (fun c_8 => ?_)
      · skip
        have d_8 : ¬ 20 < p2 := Int32.not_lt.2 c_8
        obtain ⟨kn, -, hkn, ekn⟩ : ∃ k, 0 ≤ k ∧ k ≤ 7 ∧ p1 = nI k := isI_nat (lo := 0) (hi := 7) rfl rfl (by decide) (by decide) (by rw [isI, decide_eq_true_eq]; exact ⟨Int32.not_lt.1 c_3, Int32.not_lt.1 c_6⟩)
        obtain ⟨kt, hkt2, hkt, ekt⟩ : ∃ k, 2 ≤ k ∧ k ≤ 20 ∧ p2 = nI k := isI_nat (lo := 2) (hi := 20) rfl rfl (by decide) (by decide) (by rw [isI, decide_eq_true_eq]; exact ⟨c_5, c_8⟩)
        have tn_n : tN p1 = kn := by rw [ekn]; exact tN_nI (by omega)
        have tn_t : tN p2 = kt := by rw [ekt]; exact tN_nI (by omega)
        obtain ⟨kp, hkp⟩ : ∃ z : Nat, z = 2 ^ kn := ⟨_, rfl⟩
        have h2k : kp ≤ 128 := by rw [hkp]; exact two_le7 hkn
        refine lv_iload hx hb dX4_rain_48 (lv_at hl 4 rfl) ?_
        refine lv_iconst (v := 0) hx hb dX4_rain_50 (by decide) ?_
        refine lv_iconst (v := 1) hx hb dX4_rain_51 (by decide) ?_
        refine xc_Si (As := [.int p3, .int 0, .int 1]) (rest := []) ⟨hx, hb, hml, hown, hts⟩ (kX4_isIn l D cI p3 0 1) (va_cwS 3 hts gX4_rain_X4_isIn rfl rfl rfl hs_X4_isIn ⟨Nat.le_of_ble_eq_true rfl, Nat.le_of_ble_eq_true rfl⟩) hK hP [] rfl rfl hl.1 rfl (Nat.le_of_ble_eq_true rfl) dX4_rain_52 ⟨Nat.zero_le _, Nat.zero_le _⟩ (fun r_9 hr_9 => ?_)
        refine lv_if_ne (tgt := 65) hx hb dX4_rain_55 (by decide) (fun c_10 => ?_) (fun c_10 => ?_)
        · skip
          have hb_10 : isI p3 0 1 = true := bool_t (hr_9.trans isI_ite) c_10
          obtain ⟨i_10, il_10, iu_10, ei_10⟩ := isI_nat (a := 0) (b := 1) (rfl : (0 : Int32) = nI 0) (rfl : (1 : Int32) = nI 1) (by decide) (by omega) hb_10
          have tn_10 : tN p3 = i_10 := by rw [ei_10]; exact tN_nI (by omega)
          refine lv_lconst (v := 0) hx hb dX4_rain_65 (by decide) ?_
          refine lv_lstore (lv' := [(5, .long 0), (0, .ref a0), (1, .int p0), (2, .int p1), (3, .int p2), (4, .int p3)]) hx hb dX4_rain_66 hl (by decide) rfl (fun ls hl => ?_)
          refine lv_lconst (v := 1) hx hb dX4_rain_68 (by decide) ?_
          refine lv_lstore (lv' := [(7, .long 1), (5, .long 0), (0, .ref a0), (1, .int p0), (2, .int p1), (3, .int p2), (4, .int p3)]) hx hb dX4_rain_69 hl (by decide) rfl (fun ls hl => ?_)
          refine lv_iconst (v := 0) hx hb dX4_rain_71 (by decide) ?_
          refine lv_istore (lv' := [(9, .int 0), (7, .long 1), (5, .long 0), (0, .ref a0), (1, .int p0), (2, .int p1), (3, .int p2), (4, .int p3)]) hx hb dX4_rain_72 hl (by decide) rfl (fun ls hl => ?_)
          have lp_74_11 : ∀ (fu : Nat) (i : Nat) (x9 : Int32) (x7 : Int64) (ls : Array Slot) (H : Heap) (locs : List Loc), kn - i < fu → (x9 = nI i) → (i ≤ kn) → (x7 = nL (kt ^ i)) → va_P D vwCl [(a0, .inr (3, [.ref a1, .ref a2, .ref a3, .ref a4, .int gg.hs, .ref a5, .ref a6, .ref a7, .int (nI gg.L), .int (nI gg.M), .int mm.pl, .ref a8, .int mm.sd])), (a1, .inl (cI, 49, .inl gg.r)), (a2, .inl (cI, 49, .inl mm.m)), (a3, .inl (cI, 49, .inl gg.im)), (a4, .inl (cI, 49, .inl mm.ws)), (a5, .inl (cI, 96, .inl gg.lt)), (a6, .inl (cI, 16, .inl gg.rw)), (a7, .inl (cI, 7, .inl gg.rf)), (a8, .inl (cI, 3, .inl mm.nb))] H → va_D A [(a0, .inr (3, [.ref a1, .ref a2, .ref a3, .ref a4, .int gg.hs, .ref a5, .ref a6, .ref a7, .int (nI gg.L), .int (nI gg.M), .int mm.pl, .ref a8, .int mm.sd])), (a1, .inl (cI, 49, .inl gg.r)), (a2, .inl (cI, 49, .inl mm.m)), (a3, .inl (cI, 49, .inl gg.im)), (a4, .inl (cI, 49, .inl mm.ws)), (a5, .inl (cI, 96, .inl gg.lt)), (a6, .inl (cI, 16, .inl gg.rw)), (a7, .inl (cI, 7, .inl gg.rf)), (a8, .inl (cI, 3, .inl mm.nb))] → va_S A s.heap H locs → lv_has ls 14 [(9, .int x9), (7, .long x7), (5, .long 0), (0, .ref a0), (1, .int p0), (2, .int p1), (3, .int p2), (4, .int p3)] → W p l e ({ frames := 6, cells := 0, slots := 0, locals := 132 }) s m [.ref a0, .int p0, .int p1, .int p2, .int p3].toArray below meth c H locs 0 0 Q (F0 m 74 ls []) := by
            intro fu
            induction fu with
            | zero =>
              intro i x9 x7 ls H locs hfu
              exact absurd hfu (Nat.not_lt_zero _)
            | succ fu ih_11 =>
              intro i x9 x7 ls H locs hfu hx9 hi hx7 hP hD hS hl
              refine lv_iload hx hb dX4_rain_74 (lv_at hl 0 rfl) ?_
              refine lv_iload_n hx hb dX4_rain_76 rfl (lv_at hl 5 rfl) ?_
              refine lv_icmp_ge (tgt := 93) hx hb dX4_rain_77 (by decide) (fun c_12 => ?_) (fun c_12 => ?_)
              · skip
                have n_12 : kn ≤ i := (ni_le (a := kn) (b := i) ekn hx9 (by omega) (by omega)).mp c_12
                have d_12 : ¬ x9 < p1 := Int32.not_lt.2 c_12
                have m_12 : ¬ i < kn := by omega
                refine lv_iconst (v := 0) hx hb dX4_rain_93 (by decide) ?_
                refine lv_istore (lv' := [(9, .int 0), (7, .long x7), (5, .long 0), (0, .ref a0), (1, .int p0), (2, .int p1), (3, .int p2), (4, .int p3)]) hx hb dX4_rain_94 hl (by decide) rfl (fun ls hl => ?_)
                have lp_96_13 : ∀ (fu : Nat) (s9 : Nat) (x9 : Int32) (x5 : Int64) (f : RR) (ls : Array Slot) (H : Heap) (locs : List Loc), kp - s9 < fu → (x9 = nI s9) → (s9 ≤ kp) → (x5 = nL (raA gg.r gg.n p0 kn kt s9)) → va_P D vwCl [(a0, .inr (3, [.ref a1, .ref a2, .ref a3, .ref a4, .int gg.hs, .ref a5, .ref a6, .ref a7, .int (nI gg.L), .int (nI gg.M), .int mm.pl, .ref a8, .int mm.sd])), (a1, .inl (cI, 49, .inl gg.r)), (a2, .inl (cI, 49, .inl f)), (a3, .inl (cI, 49, .inl gg.im)), (a4, .inl (cI, 49, .inl mm.ws)), (a5, .inl (cI, 96, .inl gg.lt)), (a6, .inl (cI, 16, .inl gg.rw)), (a7, .inl (cI, 7, .inl gg.rf)), (a8, .inl (cI, 3, .inl mm.nb))] H → va_D A [(a0, .inr (3, [.ref a1, .ref a2, .ref a3, .ref a4, .int gg.hs, .ref a5, .ref a6, .ref a7, .int (nI gg.L), .int (nI gg.M), .int mm.pl, .ref a8, .int mm.sd])), (a1, .inl (cI, 49, .inl gg.r)), (a2, .inl (cI, 49, .inl f)), (a3, .inl (cI, 49, .inl gg.im)), (a4, .inl (cI, 49, .inl mm.ws)), (a5, .inl (cI, 96, .inl gg.lt)), (a6, .inl (cI, 16, .inl gg.rw)), (a7, .inl (cI, 7, .inl gg.rf)), (a8, .inl (cI, 3, .inl mm.nb))] → va_S A s.heap H locs → lv_has ls 14 [(9, .int x9), (7, .long x7), (5, .long x5), (0, .ref a0), (1, .int p0), (2, .int p1), (3, .int p2), (4, .int p3)] → W p l e ({ frames := 6, cells := 0, slots := 0, locals := 132 }) s m [.ref a0, .int p0, .int p1, .int p2, .int p3].toArray below meth c H locs 0 0 Q (F0 m 96 ls []) := by
                  intro fu
                  induction fu with
                  | zero =>
                    intro s9 x9 x5 f ls H locs hfu
                    exact absurd hfu (Nat.not_lt_zero _)
                  | succ fu ih_13 =>
                    intro s9 x9 x5 f ls H locs hfu hx9 hs hx5 hP hD hS hl
                    refine lv_iload hx hb dX4_rain_96 (lv_at hl 0 rfl) ?_
                    refine lv_iconst (v := 1) hx hb dX4_rain_98 (by decide) ?_
                    refine lv_iload_n hx hb dX4_rain_99 rfl (lv_at hl 5 rfl) ?_
                    refine lv_ishl hx hb dX4_rain_100 ?_
                    refine lv_icmp_ge (tgt := 210) hx hb dX4_rain_101 (by decide) (fun c_14 => ?_) (fun c_14 => ?_)
                    · skip
                      have n_14 : kp ≤ s9 := (ni_le (a := kp) (b := s9) ((one_shl ekn (by omega)).trans (congrArg nI hkp.symm)) hx9 (by omega) (by omega)).mp c_14
                      have d_14 : ¬ x9 < (1 <<< (p1 &&& 31)) := Int32.not_lt.2 c_14
                      have m_14 : ¬ s9 < kp := by omega
                      refine lv_lload hx hb dX4_rain_210 (lv_at hl 2 rfl) ?_
                      refine lv_lload hx hb dX4_rain_212 (lv_at hl 1 rfl) ?_
                      refine lv_iload hx hb dX4_rain_214 (lv_at hl 7 rfl) ?_
                      refine xc_Sl (As := [.long x5, .long x7, .int p3]) (rest := []) ⟨hx, hb, hml, hown, hts⟩ (kX4_partOf l D cI (raA gg.r gg.n p0 kn kt (2 ^ kn)) (kt ^ kn) x5 x7 p3 (by have e9 : s9 = kp := (by omega); rw [← hkp, ← e9]; exact hx5) (by have e9 : i = kn := (by omega); rw [← e9]; exact hx7) (raA_b hkt (by omega) hkn) (pow_b hkt (by omega) hkn)) (va_cwS 3 hts gX4_rain_X4_partOf rfl rfl rfl hs_X4_partOf ⟨Nat.le_of_ble_eq_true rfl, Nat.le_of_ble_eq_true rfl⟩) hK hP [] rfl rfl hl.1 rfl (Nat.le_of_ble_eq_true rfl) dX4_rain_216 ⟨Nat.zero_le _, Nat.zero_le _⟩ (fun r_15 hr_15 => ?_)
                      exact hret 219 _ r_15 (gg, (f, mm.ws, mm.nb, mm.pl, mm.sd)) _ _ dX4_rain_219 (by first | (simp [sp_rain, rfzL, rfz, us, c_2, c_3, c_5, c_6, c_8, c_10, c_14, hb_2, tn_n, tn_t, hb_10, tn_10, n_12, n_14, hr_15]; done) | (simp [sp_rain, rfzL, rfz, us, c_2, c_3, c_5, c_6, c_8, c_10, c_14, hb_2, tn_n, tn_t, hb_10, tn_10, n_12, n_14, hr_15, isI]; done)) hP hD hS
                    have n_14 : ¬ kp ≤ s9 := fun q => c_14 ((ni_le (a := kp) (b := s9) ((one_shl ekn (by omega)).trans (congrArg nI hkp.symm)) hx9 (by omega) (by omega)).mpr q)
                    have d_14 : x9 < (1 <<< (p1 &&& 31)) := Int32.not_le.1 c_14
                    have m_14 : s9 < kp := by omega
                    refine lv_lconst (v := 1) hx hb dX4_rain_104 (by decide) ?_
                    refine lv_lstore (lv' := [(10, .long 1), (9, .int x9), (7, .long x7), (5, .long x5), (0, .ref a0), (1, .int p0), (2, .int p1), (3, .int p2), (4, .int p3)]) hx hb dX4_rain_105 hl (by decide) rfl (fun ls hl => ?_)
                    refine lv_aload_n hx hb dX4_rain_107 rfl (lv_at hl 4 rfl) ?_
                    refine va_get (D := D) (ci := 3) (v := .ref a1) (C := RX4) (T := TX4) (N := 13) hx hb hts hi_X4 hown hK.1 hP 0 rfl rfl 0 (by decide) hk_9 (fun _ h9 => h9) rfl dX4_rain_108 ?_
                    refine lv_aload_n hx hb dX4_rain_111 rfl (lv_at hl 4 rfl) ?_
                    refine va_get (D := D) (ci := 3) (v := .ref a2) (C := RX4) (T := TX4) (N := 13) hx hb hts hi_X4 hown hK.1 hP 0 rfl rfl 1 (by decide) hk_13 (fun _ h9 => h9) rfl dX4_rain_112 ?_
                    refine xw_Sv (As := [.ref a1, .ref a2]) (rest := []) (Wn := fun u => [(a0, .inr (3, [.ref a1, .ref a2, .ref a3, .ref a4, .int gg.hs, .ref a5, .ref a6, .ref a7, .int (nI gg.L), .int (nI gg.M), .int mm.pl, .ref a8, .int mm.sd])), (a1, .inl (cI, 49, .inl gg.r)), (a2, .inl (cI, 49, .inl gg.r)), (a3, .inl (cI, 49, .inl gg.im)), (a4, .inl (cI, 49, .inl mm.ws)), (a5, .inl (cI, 96, .inl gg.lt)), (a6, .inl (cI, 16, .inl gg.rw)), (a7, .inl (cI, 7, .inl gg.rf)), (a8, .inl (cI, 3, .inl mm.nb))]) (Wr := [(a0, .inr (3, [.ref a1, .ref a2, .ref a3, .ref a4, .int gg.hs, .ref a5, .ref a6, .ref a7, .int (nI gg.L), .int (nI gg.M), .int mm.pl, .ref a8, .int mm.sd])), (a3, .inl (cI, 49, .inl gg.im)), (a4, .inl (cI, 49, .inl mm.ws)), (a5, .inl (cI, 96, .inl gg.lt)), (a6, .inl (cI, 16, .inl gg.rw)), (a7, .inl (cI, 7, .inl gg.rf)), (a8, .inl (cI, 3, .inl mm.nb))]) ⟨hx, hb, hml, hown, hts⟩ (kX4_copies l D cI H.size a1 a2 gg.r f) (va_cwS 2 hts gX4_rain_X4_copies rfl rfl rfl hs_X4_copies ⟨Nat.le_of_ble_eq_true rfl, Nat.le_of_ble_eq_true rfl⟩) hK hP hD hS hA [1, 2] [0, 3, 4, 5, 6, 7, 8] [0, 7, 8, 1, 2, 3, 4, 5, 6] rfl rfl (by decide) (by decide) (by decide) (by decide) (fun u => rfl) rfl hl.1 rfl (Nat.le_of_ble_eq_true rfl) dX4_rain_115 ⟨Nat.zero_le _, Nat.zero_le _⟩ (fun u_16 H locs hw_16 hP hD hS => ?_)
                    refine lv_iconst (v := 0) hx hb dX4_rain_118 (by decide) ?_
                    refine lv_istore (lv' := [(12, .int 0), (10, .long 1), (9, .int x9), (7, .long x7), (5, .long x5), (0, .ref a0), (1, .int p0), (2, .int p1), (3, .int p2), (4, .int p3)]) hx hb dX4_rain_119 hl (by decide) rfl (fun ls hl => ?_)
                    have lp_121_17 : ∀ (fu : Nat) (d : Nat) (x12 : Int32) (x10 : Int64) (f2 : RR) (ls : Array Slot) (H : Heap) (locs : List Loc), kn - d < fu → (x12 = nI d) → (d ≤ kn) → (x10 = nL (raW kt x9 d)) → (f2 = raR gg.r gg.n x9 d) → va_P D vwCl [(a0, .inr (3, [.ref a1, .ref a2, .ref a3, .ref a4, .int gg.hs, .ref a5, .ref a6, .ref a7, .int (nI gg.L), .int (nI gg.M), .int mm.pl, .ref a8, .int mm.sd])), (a1, .inl (cI, 49, .inl gg.r)), (a2, .inl (cI, 49, .inl f2)), (a3, .inl (cI, 49, .inl gg.im)), (a4, .inl (cI, 49, .inl mm.ws)), (a5, .inl (cI, 96, .inl gg.lt)), (a6, .inl (cI, 16, .inl gg.rw)), (a7, .inl (cI, 7, .inl gg.rf)), (a8, .inl (cI, 3, .inl mm.nb))] H → va_D A [(a0, .inr (3, [.ref a1, .ref a2, .ref a3, .ref a4, .int gg.hs, .ref a5, .ref a6, .ref a7, .int (nI gg.L), .int (nI gg.M), .int mm.pl, .ref a8, .int mm.sd])), (a1, .inl (cI, 49, .inl gg.r)), (a2, .inl (cI, 49, .inl f2)), (a3, .inl (cI, 49, .inl gg.im)), (a4, .inl (cI, 49, .inl mm.ws)), (a5, .inl (cI, 96, .inl gg.lt)), (a6, .inl (cI, 16, .inl gg.rw)), (a7, .inl (cI, 7, .inl gg.rf)), (a8, .inl (cI, 3, .inl mm.nb))] → va_S A s.heap H locs → lv_has ls 14 [(12, .int x12), (10, .long x10), (9, .int x9), (7, .long x7), (5, .long x5), (0, .ref a0), (1, .int p0), (2, .int p1), (3, .int p2), (4, .int p3)] → W p l e ({ frames := 6, cells := 0, slots := 0, locals := 132 }) s m [.ref a0, .int p0, .int p1, .int p2, .int p3].toArray below meth c H locs 0 0 Q (F0 m 121 ls []) := by
                      intro fu
                      induction fu with
                      | zero =>
                        intro d x12 x10 f2 ls H locs hfu
                        exact absurd hfu (Nat.not_lt_zero _)
                      | succ fu ih_17 =>
                        intro d x12 x10 f2 ls H locs hfu hx12 hd hx10 hf2 hP hD hS hl
                        have hI_f2 : Inv gg.n f2 := (by rw [hf2]; exact hI.iraR _ _)
                        refine lv_iload hx hb dX4_rain_121 (lv_at hl 0 rfl) ?_
                        refine lv_iload_n hx hb dX4_rain_123 rfl (lv_at hl 7 rfl) ?_
                        refine lv_icmp_ge (tgt := 182) hx hb dX4_rain_124 (by decide) (fun c_18 => ?_) (fun c_18 => ?_)
                        · skip
                          have n_18 : kn ≤ d := (ni_le (a := kn) (b := d) ekn hx12 (by omega) (by omega)).mp c_18
                          have d_18 : ¬ x12 < p1 := Int32.not_lt.2 c_18
                          have m_18 : ¬ d < kn := by omega
                          refine lv_lload hx hb dX4_rain_182 (lv_at hl 4 rfl) ?_
                          refine lv_aload_n hx hb dX4_rain_184 rfl (lv_at hl 5 rfl) ?_
                          refine va_get (D := D) (ci := 3) (v := .ref a2) (C := RX4) (T := TX4) (N := 13) hx hb hts hi_X4 hown hK.1 hP 0 rfl rfl 1 (by decide) hk_13 (fun _ h9 => h9) rfl dX4_rain_185 ?_
                          refine lv_iload_n hx hb dX4_rain_188 rfl (lv_at hl 6 rfl) ?_
                          refine xc_Si (As := [.ref a2, .int p0]) (rest := [.long x5]) ⟨hx, hb, hml, hown, hts⟩ (kX4_nestIn l D cI a2 f2 gg.n hI_f2 p0) (va_cwS 2 hts gX4_rain_X4_nestIn rfl rfl rfl hs_X4_nestIn ⟨Nat.le_of_ble_eq_true rfl, Nat.le_of_ble_eq_true rfl⟩) hK hP [2] rfl rfl hl.1 rfl (Nat.le_of_ble_eq_true rfl) dX4_rain_189 ⟨Nat.zero_le _, Nat.zero_le _⟩ (fun r_19 hr_19 => ?_)
                          refine lv_if_eq (tgt := 200) hx hb dX4_rain_192 (by decide) (fun c_20 => ?_) (fun c_20 => ?_)
                          · skip
                            refine lv_lconst (v := 0) hx hb dX4_rain_200 (by decide) ?_
                            refine lv_ladd hx hb dX4_rain_201 ?_
                            refine lv_topl (fun y_21 ey_21 => ?_)
                            refine lv_lstore (lv' := [(5, .long y_21), (12, .int x12), (10, .long x10), (9, .int x9), (7, .long x7), (0, .ref a0), (1, .int p0), (2, .int p1), (3, .int p2), (4, .int p3)]) hx hb dX4_rain_202 hl (by decide) rfl (fun ls hl => ?_)
                            obtain ⟨x_22, ex_22⟩ : ∃ z : Int32, z = x9 + 1 := ⟨_, rfl⟩
                            refine lv_iinc (v := x_22) (lv' := [(9, .int x_22), (5, .long y_21), (12, .int x12), (10, .long x10), (7, .long x7), (0, .ref a0), (1, .int p0), (2, .int p1), (3, .int p2), (4, .int p3)]) hx hb dX4_rain_204 hl (k := 3) rfl (by rw [ex_22]; rfl) (by decide) rfl (fun ls hl => ?_)
                            refine lv_goto (tgt := 96) hx hb dX4_rain_207 (by decide) ?_
                            exact ih_13 (s9 + 1) x_22 y_21 f2 _ _ _ (by omega) (ni_add (a := s9) (b := 1) ex_22 hx9 (rfl : (1 : Int32) = nI 1)) (by omega) (by have e9 : d = kn := (by omega); rw [e9] at hx10 hf2; rw [hf2, hx9] at hr_19; rw [hr_19] at c_20; rw [ey_21, hx5, raA, if_pos c_20, ← nL_add]; rfl) hP hD hS (lv_sub hl [0, 4, 1, 5, 6, 7, 8, 9] rfl)
                          refine lv_lload hx hb dX4_rain_195 (lv_at hl 1 rfl) ?_
                          refine lv_goto (tgt := 201) hx hb dX4_rain_197 (by decide) ?_
                          refine lv_ladd hx hb dX4_rain_201 ?_
                          refine lv_topl (fun y_23 ey_23 => ?_)
                          refine lv_lstore (lv' := [(5, .long y_23), (12, .int x12), (10, .long x10), (9, .int x9), (7, .long x7), (0, .ref a0), (1, .int p0), (2, .int p1), (3, .int p2), (4, .int p3)]) hx hb dX4_rain_202 hl (by decide) rfl (fun ls hl => ?_)
                          obtain ⟨x_24, ex_24⟩ : ∃ z : Int32, z = x9 + 1 := ⟨_, rfl⟩
                          refine lv_iinc (v := x_24) (lv' := [(9, .int x_24), (5, .long y_23), (12, .int x12), (10, .long x10), (7, .long x7), (0, .ref a0), (1, .int p0), (2, .int p1), (3, .int p2), (4, .int p3)]) hx hb dX4_rain_204 hl (k := 3) rfl (by rw [ex_24]; rfl) (by decide) rfl (fun ls hl => ?_)
                          refine lv_goto (tgt := 96) hx hb dX4_rain_207 (by decide) ?_
                          exact ih_13 (s9 + 1) x_24 y_23 f2 _ _ _ (by omega) (ni_add (a := s9) (b := 1) ex_24 hx9 (rfl : (1 : Int32) = nI 1)) (by omega) (by have e9 : d = kn := (by omega); rw [e9] at hx10 hf2; rw [hf2, hx9] at hr_19; rw [hr_19] at c_20; rw [ey_23, hx5, hx10, hx9, raA, if_neg c_20, ← nL_add]) hP hD hS (lv_sub hl [0, 4, 1, 5, 6, 7, 8, 9] rfl)
                        have n_18 : ¬ kn ≤ d := fun q => c_18 ((ni_le (a := kn) (b := d) ekn hx12 (by omega) (by omega)).mpr q)
                        have d_18 : x12 < p1 := Int32.not_le.1 c_18
                        have m_18 : d < kn := by omega
                        refine lv_lload hx hb dX4_rain_127 (lv_at hl 1 rfl) ?_
                        refine lv_iload hx hb dX4_rain_129 (lv_at hl 2 rfl) ?_
                        refine lv_iload hx hb dX4_rain_131 (lv_at hl 0 rfl) ?_
                        refine xc_Si (As := [.int x9, .int x12]) (rest := [.long x10]) ⟨hx, hb, hml, hown, hts⟩ (kX4_has l D cI x9 x12 d hx12 (by omega)) (va_cwS 2 hts gX4_rain_X4_has rfl rfl rfl hs_X4_has ⟨Nat.le_of_ble_eq_true rfl, Nat.le_of_ble_eq_true rfl⟩) hK hP [] rfl rfl hl.1 rfl (Nat.le_of_ble_eq_true rfl) dX4_rain_133 ⟨Nat.zero_le _, Nat.zero_le _⟩ (fun r_25 hr_25 => ?_)
                        refine lv_if_eq (tgt := 143) hx hb dX4_rain_136 (by decide) (fun c_26 => ?_) (fun c_26 => ?_)
                        · skip
                          have hb_26 : bt x9 d = false := bool_f hr_25 c_26
                          have hbn_26 := hb_26
                          refine lv_iload_n hx hb dX4_rain_143 rfl (lv_at hl 8 rfl) ?_
                          refine lv_iconst (v := 1) hx hb dX4_rain_144 (by decide) ?_
                          refine lv_isub hx hb dX4_rain_145 ?_
                          refine lv_i2l (v := (p2 - 1).toInt64) hx hb dX4_rain_146 rfl ?_
                          refine lv_lmul hx hb dX4_rain_147 ?_
                          refine lv_topl (fun y_27 ey_27 => ?_)
                          refine lv_lstore (lv' := [(10, .long y_27), (12, .int x12), (9, .int x9), (7, .long x7), (5, .long x5), (0, .ref a0), (1, .int p0), (2, .int p1), (3, .int p2), (4, .int p3)]) hx hb dX4_rain_148 hl (by decide) rfl (fun ls hl => ?_)
                          refine lv_iload hx hb dX4_rain_150 (lv_at hl 2 rfl) ?_
                          refine lv_iload hx hb dX4_rain_152 (lv_at hl 1 rfl) ?_
                          refine xc_Si (As := [.int x9, .int x12]) (rest := []) ⟨hx, hb, hml, hown, hts⟩ (kX4_has l D cI x9 x12 d hx12 (by omega)) (va_cwS 2 hts gX4_rain_X4_has rfl rfl rfl hs_X4_has ⟨Nat.le_of_ble_eq_true rfl, Nat.le_of_ble_eq_true rfl⟩) hK hP [] rfl rfl hl.1 rfl (Nat.le_of_ble_eq_true rfl) dX4_rain_154 ⟨Nat.zero_le _, Nat.zero_le _⟩ (fun r_28 hr_28 => ?_)
                          refine lv_if_eq (tgt := 167) hx hb dX4_rain_157 (by decide) (fun c_29 => ?_) (fun c_29 => ?_)
                          · skip
                            have hb_29 : bt x9 d = false := bool_f hr_28 c_29
                            have hbn_29 := hb_29
                            refine lv_aload_n hx hb dX4_rain_167 rfl (lv_at hl 5 rfl) ?_
                            refine va_get (D := D) (ci := 3) (v := .ref a2) (C := RX4) (T := TX4) (N := 13) hx hb hts hi_X4 hown hK.1 hP 0 rfl rfl 1 (by decide) hk_13 (fun _ h9 => h9) rfl dX4_rain_168 ?_
                            refine xw_Si (As := [.ref a2]) (rest := []) (Wn := fun u => [(a0, .inr (3, [.ref a1, .ref a2, .ref a3, .ref a4, .int gg.hs, .ref a5, .ref a6, .ref a7, .int (nI gg.L), .int (nI gg.M), .int mm.pl, .ref a8, .int mm.sd])), (a1, .inl (cI, 49, .inl gg.r)), (a2, .inl (cI, 49, .inl u)), (a3, .inl (cI, 49, .inl gg.im)), (a4, .inl (cI, 49, .inl mm.ws)), (a5, .inl (cI, 96, .inl gg.lt)), (a6, .inl (cI, 16, .inl gg.rw)), (a7, .inl (cI, 7, .inl gg.rf)), (a8, .inl (cI, 3, .inl mm.nb))]) (Wr := [(a0, .inr (3, [.ref a1, .ref a2, .ref a3, .ref a4, .int gg.hs, .ref a5, .ref a6, .ref a7, .int (nI gg.L), .int (nI gg.M), .int mm.pl, .ref a8, .int mm.sd])), (a1, .inl (cI, 49, .inl gg.r)), (a3, .inl (cI, 49, .inl gg.im)), (a4, .inl (cI, 49, .inl mm.ws)), (a5, .inl (cI, 96, .inl gg.lt)), (a6, .inl (cI, 16, .inl gg.rw)), (a7, .inl (cI, 7, .inl gg.rf)), (a8, .inl (cI, 3, .inl mm.nb))]) ⟨hx, hb, hml, hown, hts⟩ (kX4_day l D cI H.size a2 f2 gg.n hI_f2) (va_cwS 1 hts gX4_rain_X4_day rfl rfl rfl hs_X4_day ⟨Nat.le_of_ble_eq_true rfl, Nat.le_of_ble_eq_true rfl⟩) hK hP hD hS hA [2] [0, 1, 3, 4, 5, 6, 7, 8] [0, 1, 8, 2, 3, 4, 5, 6, 7] rfl rfl (by decide) (by decide) (by decide) (by decide) (fun u => rfl) rfl hl.1 rfl (Nat.le_of_ble_eq_true rfl) dX4_rain_171 ⟨Nat.zero_le _, Nat.zero_le _⟩ (fun r_30 u_30 H locs hw_30 hP hD hS => ?_)
                            obtain ⟨hr_30, hu_30⟩ := hw_30
                            have hI_u_30 : Inv gg.n u_30 := (by rw [hu_30]; exact hI_f2.idayR)
                            refine lv_istore (lv' := [(13, .int r_30), (10, .long y_27), (12, .int x12), (9, .int x9), (7, .long x7), (5, .long x5), (0, .ref a0), (1, .int p0), (2, .int p1), (3, .int p2), (4, .int p3)]) hx hb dX4_rain_174 hl (by decide) rfl (fun ls hl => ?_)
                            obtain ⟨x_31, ex_31⟩ : ∃ z : Int32, z = x12 + 1 := ⟨_, rfl⟩
                            refine lv_iinc (v := x_31) (lv' := [(12, .int x_31), (13, .int r_30), (10, .long y_27), (9, .int x9), (7, .long x7), (5, .long x5), (0, .ref a0), (1, .int p0), (2, .int p1), (3, .int p2), (4, .int p3)]) hx hb dX4_rain_176 hl (k := 2) rfl (by rw [ex_31]; rfl) (by decide) rfl (fun ls hl => ?_)
                            refine lv_goto (tgt := 121) hx hb dX4_rain_179 (by decide) ?_
                            exact ih_17 (d + 1) x_31 y_27 u_30 _ _ _ (by omega) (ni_add (a := d) (b := 1) ex_31 hx12 (rfl : (1 : Int32) = nI 1)) (by omega) (by rw [ey_27, hx10, raW, if_neg (by rw [hb_26]; decide), (show p2 - 1 = nI (kt - 1) from ni_sub (a := kt) (b := 1) rfl ekt rfl (by omega)), nI_toL (by omega), nL_mul]) (by rw [raR, if_neg (by rw [hb_26]; decide), ← hf2]; exact hu_30) hP hD hS (lv_sub hl [0, 2, 3, 4, 5, 6, 7, 8, 9, 10] rfl)
                          have hb_29 : bt x9 d = true := bool_t hr_28 c_29
                          have hbn_29 := hb_29
                          exact absurd (hb_26.symm.trans hb_29) (by decide)
                        have hb_26 : bt x9 d = true := bool_t hr_25 c_26
                        have hbn_26 := hb_26
                        refine lv_lconst (v := 1) hx hb dX4_rain_139 (by decide) ?_
                        refine lv_goto (tgt := 147) hx hb dX4_rain_140 (by decide) ?_
                        refine lv_lmul hx hb dX4_rain_147 ?_
                        refine lv_topl (fun y_32 ey_32 => ?_)
                        refine lv_lstore (lv' := [(10, .long y_32), (12, .int x12), (9, .int x9), (7, .long x7), (5, .long x5), (0, .ref a0), (1, .int p0), (2, .int p1), (3, .int p2), (4, .int p3)]) hx hb dX4_rain_148 hl (by decide) rfl (fun ls hl => ?_)
                        refine lv_iload hx hb dX4_rain_150 (lv_at hl 2 rfl) ?_
                        refine lv_iload hx hb dX4_rain_152 (lv_at hl 1 rfl) ?_
                        refine xc_Si (As := [.int x9, .int x12]) (rest := []) ⟨hx, hb, hml, hown, hts⟩ (kX4_has l D cI x9 x12 d hx12 (by omega)) (va_cwS 2 hts gX4_rain_X4_has rfl rfl rfl hs_X4_has ⟨Nat.le_of_ble_eq_true rfl, Nat.le_of_ble_eq_true rfl⟩) hK hP [] rfl rfl hl.1 rfl (Nat.le_of_ble_eq_true rfl) dX4_rain_154 ⟨Nat.zero_le _, Nat.zero_le _⟩ (fun r_33 hr_33 => ?_)
                        refine lv_if_eq (tgt := 167) hx hb dX4_rain_157 (by decide) (fun c_34 => ?_) (fun c_34 => ?_)
                        · skip
                          have hb_34 : bt x9 d = false := bool_f hr_33 c_34
                          have hbn_34 := hb_34
                          exact absurd (hb_26.symm.trans hb_34) (by decide)
                        have hb_34 : bt x9 d = true := bool_t hr_33 c_34
                        have hbn_34 := hb_34
                        refine lv_aload_n hx hb dX4_rain_160 rfl (lv_at hl 5 rfl) ?_
                        refine va_get (D := D) (ci := 3) (v := .ref a2) (C := RX4) (T := TX4) (N := 13) hx hb hts hi_X4 hown hK.1 hP 0 rfl rfl 1 (by decide) hk_13 (fun _ h9 => h9) rfl dX4_rain_161 ?_
                        refine xw_Sv (As := [.ref a2]) (rest := []) (Wn := fun u => [(a0, .inr (3, [.ref a1, .ref a2, .ref a3, .ref a4, .int gg.hs, .ref a5, .ref a6, .ref a7, .int (nI gg.L), .int (nI gg.M), .int mm.pl, .ref a8, .int mm.sd])), (a1, .inl (cI, 49, .inl gg.r)), (a2, .inl (cI, 49, .inl u)), (a3, .inl (cI, 49, .inl gg.im)), (a4, .inl (cI, 49, .inl mm.ws)), (a5, .inl (cI, 96, .inl gg.lt)), (a6, .inl (cI, 16, .inl gg.rw)), (a7, .inl (cI, 7, .inl gg.rf)), (a8, .inl (cI, 3, .inl mm.nb))]) (Wr := [(a0, .inr (3, [.ref a1, .ref a2, .ref a3, .ref a4, .int gg.hs, .ref a5, .ref a6, .ref a7, .int (nI gg.L), .int (nI gg.M), .int mm.pl, .ref a8, .int mm.sd])), (a1, .inl (cI, 49, .inl gg.r)), (a3, .inl (cI, 49, .inl gg.im)), (a4, .inl (cI, 49, .inl mm.ws)), (a5, .inl (cI, 96, .inl gg.lt)), (a6, .inl (cI, 16, .inl gg.rw)), (a7, .inl (cI, 7, .inl gg.rf)), (a8, .inl (cI, 3, .inl mm.nb))]) ⟨hx, hb, hml, hown, hts⟩ (kX4_rains l D cI H.size a2 f2 gg.n hI_f2) (va_cwS 1 hts gX4_rain_X4_rains rfl rfl rfl hs_X4_rains ⟨Nat.le_of_ble_eq_true rfl, Nat.le_of_ble_eq_true rfl⟩) hK hP hD hS hA [2] [0, 1, 3, 4, 5, 6, 7, 8] [0, 1, 8, 2, 3, 4, 5, 6, 7] rfl rfl (by decide) (by decide) (by decide) (by decide) (fun u => rfl) rfl hl.1 rfl (Nat.le_of_ble_eq_true rfl) dX4_rain_164 ⟨Nat.zero_le _, Nat.zero_le _⟩ (fun u_35 H locs hw_35 hP hD hS => ?_)
                        have hI_u_35 : Inv gg.n u_35 := (by rw [hw_35]; exact hI_f2.irnN _ (Nat.le_refl _))
                        refine lv_aload_n hx hb dX4_rain_167 rfl (lv_at hl 5 rfl) ?_
                        refine va_get (D := D) (ci := 3) (v := .ref a2) (C := RX4) (T := TX4) (N := 13) hx hb hts hi_X4 hown hK.1 hP 0 rfl rfl 1 (by decide) hk_13 (fun _ h9 => h9) rfl dX4_rain_168 ?_
                        refine xw_Si (As := [.ref a2]) (rest := []) (Wn := fun u => [(a0, .inr (3, [.ref a1, .ref a2, .ref a3, .ref a4, .int gg.hs, .ref a5, .ref a6, .ref a7, .int (nI gg.L), .int (nI gg.M), .int mm.pl, .ref a8, .int mm.sd])), (a1, .inl (cI, 49, .inl gg.r)), (a2, .inl (cI, 49, .inl u)), (a3, .inl (cI, 49, .inl gg.im)), (a4, .inl (cI, 49, .inl mm.ws)), (a5, .inl (cI, 96, .inl gg.lt)), (a6, .inl (cI, 16, .inl gg.rw)), (a7, .inl (cI, 7, .inl gg.rf)), (a8, .inl (cI, 3, .inl mm.nb))]) (Wr := [(a0, .inr (3, [.ref a1, .ref a2, .ref a3, .ref a4, .int gg.hs, .ref a5, .ref a6, .ref a7, .int (nI gg.L), .int (nI gg.M), .int mm.pl, .ref a8, .int mm.sd])), (a1, .inl (cI, 49, .inl gg.r)), (a3, .inl (cI, 49, .inl gg.im)), (a4, .inl (cI, 49, .inl mm.ws)), (a5, .inl (cI, 96, .inl gg.lt)), (a6, .inl (cI, 16, .inl gg.rw)), (a7, .inl (cI, 7, .inl gg.rf)), (a8, .inl (cI, 3, .inl mm.nb))]) ⟨hx, hb, hml, hown, hts⟩ (kX4_day l D cI H.size a2 u_35 gg.n hI_u_35) (va_cwS 1 hts gX4_rain_X4_day rfl rfl rfl hs_X4_day ⟨Nat.le_of_ble_eq_true rfl, Nat.le_of_ble_eq_true rfl⟩) hK hP hD hS hA [2] [0, 1, 3, 4, 5, 6, 7, 8] [0, 1, 8, 2, 3, 4, 5, 6, 7] rfl rfl (by decide) (by decide) (by decide) (by decide) (fun u => rfl) rfl hl.1 rfl (Nat.le_of_ble_eq_true rfl) dX4_rain_171 ⟨Nat.zero_le _, Nat.zero_le _⟩ (fun r_36 u_36 H locs hw_36 hP hD hS => ?_)
                        obtain ⟨hr_36, hu_36⟩ := hw_36
                        have hI_u_36 : Inv gg.n u_36 := (by rw [hu_36]; exact hI_u_35.idayR)
                        refine lv_istore (lv' := [(13, .int r_36), (10, .long y_32), (12, .int x12), (9, .int x9), (7, .long x7), (5, .long x5), (0, .ref a0), (1, .int p0), (2, .int p1), (3, .int p2), (4, .int p3)]) hx hb dX4_rain_174 hl (by decide) rfl (fun ls hl => ?_)
                        obtain ⟨x_37, ex_37⟩ : ∃ z : Int32, z = x12 + 1 := ⟨_, rfl⟩
                        refine lv_iinc (v := x_37) (lv' := [(12, .int x_37), (13, .int r_36), (10, .long y_32), (9, .int x9), (7, .long x7), (5, .long x5), (0, .ref a0), (1, .int p0), (2, .int p1), (3, .int p2), (4, .int p3)]) hx hb dX4_rain_176 hl (k := 2) rfl (by rw [ex_37]; rfl) (by decide) rfl (fun ls hl => ?_)
                        refine lv_goto (tgt := 121) hx hb dX4_rain_179 (by decide) ?_
                        exact ih_17 (d + 1) x_37 y_32 u_36 _ _ _ (by omega) (ni_add (a := d) (b := 1) ex_37 hx12 (rfl : (1 : Int32) = nI 1)) (by omega) (by rw [ey_32, hx10, raW, if_pos hb_26, ← nL_mul]; rfl) (by rw [raR, if_pos hb_26, ← hf2, ← hw_35]; exact hu_36) hP hD hS (lv_sub hl [0, 2, 3, 4, 5, 6, 7, 8, 9, 10] rfl)
                    exact lp_121_17 ((kn - 0) + 1) 0 0 1 gg.r _ _ _ (by omega) (rfl : (0 : Int32) = nI 0) (by omega) rfl rfl hP hD hS (lv_sub hl [0, 1, 2, 3, 4, 5, 6, 7, 8, 9] rfl)
                exact lp_96_13 ((kp - 0) + 1) 0 0 0 mm.m _ _ _ (by omega) (rfl : (0 : Int32) = nI 0) (by omega) rfl hP hD hS (lv_sub hl [0, 1, 2, 3, 4, 5, 6, 7] rfl)
              have n_12 : ¬ kn ≤ i := fun q => c_12 ((ni_le (a := kn) (b := i) ekn hx9 (by omega) (by omega)).mpr q)
              have d_12 : x9 < p1 := Int32.not_le.1 c_12
              have m_12 : i < kn := by omega
              refine lv_lload hx hb dX4_rain_80 (lv_at hl 1 rfl) ?_
              refine lv_iload_n hx hb dX4_rain_82 rfl (lv_at hl 6 rfl) ?_
              refine lv_i2l (v := p2.toInt64) hx hb dX4_rain_83 rfl ?_
              refine lv_lmul hx hb dX4_rain_84 ?_
              refine lv_topl (fun y_38 ey_38 => ?_)
              refine lv_lstore (lv' := [(7, .long y_38), (9, .int x9), (5, .long 0), (0, .ref a0), (1, .int p0), (2, .int p1), (3, .int p2), (4, .int p3)]) hx hb dX4_rain_85 hl (by decide) rfl (fun ls hl => ?_)
              obtain ⟨x_39, ex_39⟩ : ∃ z : Int32, z = x9 + 1 := ⟨_, rfl⟩
              refine lv_iinc (v := x_39) (lv' := [(9, .int x_39), (7, .long y_38), (5, .long 0), (0, .ref a0), (1, .int p0), (2, .int p1), (3, .int p2), (4, .int p3)]) hx hb dX4_rain_87 hl (k := 1) rfl (by rw [ex_39]; rfl) (by decide) rfl (fun ls hl => ?_)
              refine lv_goto (tgt := 74) hx hb dX4_rain_90 (by decide) ?_
              exact ih_11 (i + 1) x_39 y_38 _ _ _ (by omega) (ni_add (a := i) (b := 1) ex_39 hx9 (rfl : (1 : Int32) = nI 1)) (by omega) (by rw [ey_38, hx7, ekt, nI_toL (by omega), nL_mul, Nat.pow_succ]) hP hD hS (lv_sub hl [0, 1, 2, 3, 4, 5, 6, 7] rfl)
          exact lp_74_11 ((kn - 0) + 1) 0 0 1 _ _ _ (by omega) (rfl : (0 : Int32) = nI 0) (by omega) rfl hP hD hS (lv_sub hl [0, 1, 2, 3, 4, 5, 6, 7] rfl)
        have hb_10 : isI p3 0 1 = false := bool_f (hr_9.trans isI_ite) c_10
        refine lv_aload_n hx hb dX4_rain_58 rfl (lv_at hl 0 rfl) ?_
        refine lv_bipush (v := (-2)) hx hb dX4_rain_59 (by decide) ?_
        refine xw_Vl (As := [.int (-2)]) (rest := []) (Wn := fun u => [(a0, .inr (3, [.ref a1, .ref a2, .ref a3, .ref a4, .int gg.hs, .ref a5, .ref a6, .ref a7, .int (nI gg.L), .int (nI gg.M), .int mm.pl, .ref a8, .int mm.sd])), (a1, .inl (cI, 49, .inl gg.r)), (a2, .inl (cI, 49, .inl mm.m)), (a3, .inl (cI, 49, .inl gg.im)), (a4, .inl (cI, 49, .inl mm.ws)), (a5, .inl (cI, 96, .inl gg.lt)), (a6, .inl (cI, 16, .inl gg.rw)), (a7, .inl (cI, 7, .inl (upd gg.rf (cN (-2)) (gg.rf (cN (-2)) + 1)))), (a8, .inl (cI, 3, .inl mm.nb))]) (Wr := [(a1, .inl (cI, 49, .inl gg.r)), (a2, .inl (cI, 49, .inl mm.m)), (a3, .inl (cI, 49, .inl gg.im)), (a4, .inl (cI, 49, .inl mm.ws)), (a5, .inl (cI, 96, .inl gg.lt)), (a6, .inl (cI, 16, .inl gg.rw)), (a8, .inl (cI, 3, .inl mm.nb))]) ⟨hx, hb, hml, hown, hts⟩ (kX4_noWide l D cI H.size a0 a1 a2 a3 a4 a5 a6 a7 a8 gg mm (-2) okc_2) (cwV 1 hts gX4_rain_X4_noWide rfl rfl rfl hv_X4_noWide ⟨Nat.le_of_ble_eq_true rfl, Nat.le_of_ble_eq_true rfl⟩) hK hP hD hS hA [0, 7] [1, 2, 3, 4, 5, 6, 8] [7, 0, 1, 2, 3, 4, 5, 8, 6] rfl rfl (by decide) (by decide) (by decide) (by decide) (fun u => rfl) 0 rfl rfl rfl hl.1 rfl (Nat.le_of_ble_eq_true rfl) dX4_rain_61 ⟨Nat.zero_le _, Nat.zero_le _⟩ (fun r_40 u_40 H locs hw_40 hP hD hS => ?_)
        exact hret 64 _ r_40 ((gg.n, gg.r, gg.m, gg.im, gg.hs, gg.lt, gg.L, gg.rw, gg.M, (upd gg.rf (cN (-2)) (gg.rf (cN (-2)) + 1))), mm) _ _ dX4_rain_64 (by first | (simp [sp_rain, rfzL, rfz, us, c_2, c_3, c_5, c_6, c_8, c_10, hb_2, tn_n, tn_t, hb_10, hw_40]; done) | (simp [sp_rain, rfzL, rfz, us, c_2, c_3, c_5, c_6, c_8, c_10, hb_2, tn_n, tn_t, hb_10, hw_40, isI]; done)) hP hD hS
      have d_8 : 20 < p2 := Int32.not_le.1 c_8
      refine lv_aload_n hx hb dX4_rain_41 rfl (lv_at hl 0 rfl) ?_
      refine lv_bipush (v := (-6)) hx hb dX4_rain_42 (by decide) ?_
      refine xw_Vl (As := [.int (-6)]) (rest := []) (Wn := fun u => [(a0, .inr (3, [.ref a1, .ref a2, .ref a3, .ref a4, .int gg.hs, .ref a5, .ref a6, .ref a7, .int (nI gg.L), .int (nI gg.M), .int mm.pl, .ref a8, .int mm.sd])), (a1, .inl (cI, 49, .inl gg.r)), (a2, .inl (cI, 49, .inl mm.m)), (a3, .inl (cI, 49, .inl gg.im)), (a4, .inl (cI, 49, .inl mm.ws)), (a5, .inl (cI, 96, .inl gg.lt)), (a6, .inl (cI, 16, .inl gg.rw)), (a7, .inl (cI, 7, .inl (upd gg.rf (cN (-6)) (gg.rf (cN (-6)) + 1)))), (a8, .inl (cI, 3, .inl mm.nb))]) (Wr := [(a1, .inl (cI, 49, .inl gg.r)), (a2, .inl (cI, 49, .inl mm.m)), (a3, .inl (cI, 49, .inl gg.im)), (a4, .inl (cI, 49, .inl mm.ws)), (a5, .inl (cI, 96, .inl gg.lt)), (a6, .inl (cI, 16, .inl gg.rw)), (a8, .inl (cI, 3, .inl mm.nb))]) ⟨hx, hb, hml, hown, hts⟩ (kX4_noWide l D cI H.size a0 a1 a2 a3 a4 a5 a6 a7 a8 gg mm (-6) okc_6) (cwV 1 hts gX4_rain_X4_noWide rfl rfl rfl hv_X4_noWide ⟨Nat.le_of_ble_eq_true rfl, Nat.le_of_ble_eq_true rfl⟩) hK hP hD hS hA [0, 7] [1, 2, 3, 4, 5, 6, 8] [7, 0, 1, 2, 3, 4, 5, 8, 6] rfl rfl (by decide) (by decide) (by decide) (by decide) (fun u => rfl) 0 rfl rfl rfl hl.1 rfl (Nat.le_of_ble_eq_true rfl) dX4_rain_44 ⟨Nat.zero_le _, Nat.zero_le _⟩ (fun r_41 u_41 H locs hw_41 hP hD hS => ?_)
      exact hret 47 _ r_41 ((gg.n, gg.r, gg.m, gg.im, gg.hs, gg.lt, gg.L, gg.rw, gg.M, (upd gg.rf (cN (-6)) (gg.rf (cN (-6)) + 1))), mm) _ _ dX4_rain_47 (by first | (simp [sp_rain, rfzL, rfz, us, c_2, c_3, c_5, c_6, c_8, hb_2, hw_41]; done) | (simp [sp_rain, rfzL, rfz, us, c_2, c_3, c_5, c_6, c_8, hb_2, hw_41, isI]; done)) hP hD hS
    have d_5 : p2 < 2 := Int32.not_le.1 c_5
    refine lv_aload_n hx hb dX4_rain_22 rfl (lv_at hl 0 rfl) ?_
    refine lv_bipush (v := (-4)) hx hb dX4_rain_23 (by decide) ?_
    refine xw_Vl (As := [.int (-4)]) (rest := []) (Wn := fun u => [(a0, .inr (3, [.ref a1, .ref a2, .ref a3, .ref a4, .int gg.hs, .ref a5, .ref a6, .ref a7, .int (nI gg.L), .int (nI gg.M), .int mm.pl, .ref a8, .int mm.sd])), (a1, .inl (cI, 49, .inl gg.r)), (a2, .inl (cI, 49, .inl mm.m)), (a3, .inl (cI, 49, .inl gg.im)), (a4, .inl (cI, 49, .inl mm.ws)), (a5, .inl (cI, 96, .inl gg.lt)), (a6, .inl (cI, 16, .inl gg.rw)), (a7, .inl (cI, 7, .inl (upd gg.rf (cN (-4)) (gg.rf (cN (-4)) + 1)))), (a8, .inl (cI, 3, .inl mm.nb))]) (Wr := [(a1, .inl (cI, 49, .inl gg.r)), (a2, .inl (cI, 49, .inl mm.m)), (a3, .inl (cI, 49, .inl gg.im)), (a4, .inl (cI, 49, .inl mm.ws)), (a5, .inl (cI, 96, .inl gg.lt)), (a6, .inl (cI, 16, .inl gg.rw)), (a8, .inl (cI, 3, .inl mm.nb))]) ⟨hx, hb, hml, hown, hts⟩ (kX4_noWide l D cI H.size a0 a1 a2 a3 a4 a5 a6 a7 a8 gg mm (-4) okc_4) (cwV 1 hts gX4_rain_X4_noWide rfl rfl rfl hv_X4_noWide ⟨Nat.le_of_ble_eq_true rfl, Nat.le_of_ble_eq_true rfl⟩) hK hP hD hS hA [0, 7] [1, 2, 3, 4, 5, 6, 8] [7, 0, 1, 2, 3, 4, 5, 8, 6] rfl rfl (by decide) (by decide) (by decide) (by decide) (fun u => rfl) 0 rfl rfl rfl hl.1 rfl (Nat.le_of_ble_eq_true rfl) dX4_rain_25 ⟨Nat.zero_le _, Nat.zero_le _⟩ (fun r_42 u_42 H locs hw_42 hP hD hS => ?_)
    exact hret 28 _ r_42 ((gg.n, gg.r, gg.m, gg.im, gg.hs, gg.lt, gg.L, gg.rw, gg.M, (upd gg.rf (cN (-4)) (gg.rf (cN (-4)) + 1))), mm) _ _ dX4_rain_28 (by first | (simp [sp_rain, rfzL, rfz, us, c_2, c_3, c_5, hb_2, hw_42]; done) | (simp [sp_rain, rfzL, rfz, us, c_2, c_3, c_5, hb_2, hw_42, isI]; done)) hP hD hS
  have hb_2 : womB p0 = false := bool_f hr_1 c_2
  refine lv_aload_n hx hb dX4_rain_7 rfl (lv_at hl 0 rfl) ?_
  refine lv_iconst (v := (-1)) hx hb dX4_rain_8 (by decide) ?_
  refine xw_Vl (As := [.int (-1)]) (rest := []) (Wn := fun u => [(a0, .inr (3, [.ref a1, .ref a2, .ref a3, .ref a4, .int gg.hs, .ref a5, .ref a6, .ref a7, .int (nI gg.L), .int (nI gg.M), .int mm.pl, .ref a8, .int mm.sd])), (a1, .inl (cI, 49, .inl gg.r)), (a2, .inl (cI, 49, .inl mm.m)), (a3, .inl (cI, 49, .inl gg.im)), (a4, .inl (cI, 49, .inl mm.ws)), (a5, .inl (cI, 96, .inl gg.lt)), (a6, .inl (cI, 16, .inl gg.rw)), (a7, .inl (cI, 7, .inl (upd gg.rf (cN (-1)) (gg.rf (cN (-1)) + 1)))), (a8, .inl (cI, 3, .inl mm.nb))]) (Wr := [(a1, .inl (cI, 49, .inl gg.r)), (a2, .inl (cI, 49, .inl mm.m)), (a3, .inl (cI, 49, .inl gg.im)), (a4, .inl (cI, 49, .inl mm.ws)), (a5, .inl (cI, 96, .inl gg.lt)), (a6, .inl (cI, 16, .inl gg.rw)), (a8, .inl (cI, 3, .inl mm.nb))]) ⟨hx, hb, hml, hown, hts⟩ (kX4_noWide l D cI H.size a0 a1 a2 a3 a4 a5 a6 a7 a8 gg mm (-1) okc_1) (cwV 1 hts gX4_rain_X4_noWide rfl rfl rfl hv_X4_noWide ⟨Nat.le_of_ble_eq_true rfl, Nat.le_of_ble_eq_true rfl⟩) hK hP hD hS hA [0, 7] [1, 2, 3, 4, 5, 6, 8] [7, 0, 1, 2, 3, 4, 5, 8, 6] rfl rfl (by decide) (by decide) (by decide) (by decide) (fun u => rfl) 0 rfl rfl rfl hl.1 rfl (Nat.le_of_ble_eq_true rfl) dX4_rain_9 ⟨Nat.zero_le _, Nat.zero_le _⟩ (fun r_43 u_43 H locs hw_43 hP hD hS => ?_)
  exact hret 12 _ r_43 ((gg.n, gg.r, gg.m, gg.im, gg.hs, gg.lt, gg.L, gg.rw, gg.M, (upd gg.rf (cN (-1)) (gg.rf (cN (-1)) + 1))), mm) _ _ dX4_rain_12 (by first | (simp [sp_rain, rfzL, rfz, us, c_2, hb_2, hw_43]; done) | (simp [sp_rain, rfzL, rfz, us, c_2, hb_2, hw_43, isI]; done)) hP hD hS

set_option maxHeartbeats 4000000 in
set_option maxRecDepth 100000 in
theorem kX4_mean (l : Launch) (D : va_G) (cI : ClassId) (sz : Nat) (a0 a1 a2 a3 a4 a5 a6 a7 a8 : Nat) (gg : GG) (mm : MS) (hG : Good gg) (p0 : Int32) : Met l yX4_mean wsX4_mean ({ frames := 5, cells := 0, slots := 0, locals := 109 }) (PRW D cI [.ref a0, .int p0] [(a0, .inr (3, [.ref a1, .ref a2, .ref a3, .ref a4, .int gg.hs, .ref a5, .ref a6, .ref a7, .int (nI gg.L), .int (nI gg.M), .int mm.pl, .ref a8, .int mm.sd])), (a1, .inl (cI, 49, .inl gg.r)), (a2, .inl (cI, 49, .inl mm.m)), (a3, .inl (cI, 49, .inl gg.im)), (a4, .inl (cI, 49, .inl mm.ws)), (a5, .inl (cI, 96, .inl gg.lt)), (a6, .inl (cI, 16, .inl gg.rw)), (a7, .inl (cI, 7, .inl gg.rf)), (a8, .inl (cI, 3, .inl mm.nb))] sz) (va_Ql (S := GG × MS) (fun v u => (v, u.1) = sp_mean gg p0) (BRW D [(a0, .inr (3, [.ref a1, .ref a2, .ref a3, .ref a4, .int gg.hs, .ref a5, .ref a6, .ref a7, .int (nI gg.L), .int (nI gg.M), .int mm.pl, .ref a8, .int mm.sd])), (a1, .inl (cI, 49, .inl gg.r)), (a2, .inl (cI, 49, .inl mm.m)), (a3, .inl (cI, 49, .inl gg.im)), (a4, .inl (cI, 49, .inl mm.ws)), (a5, .inl (cI, 96, .inl gg.lt)), (a6, .inl (cI, 16, .inl gg.rw)), (a7, .inl (cI, 7, .inl gg.rf)), (a8, .inl (cI, 3, .inl mm.nb))] sz (fun u => [(a0, .inr (3, [.ref a1, .ref a2, .ref a3, .ref a4, .int u.1.hs, .ref a5, .ref a6, .ref a7, .int (nI u.1.L), .int (nI u.1.M), .int u.2.pl, .ref a8, .int u.2.sd])), (a1, .inl (cI, 49, .inl u.1.r)), (a2, .inl (cI, 49, .inl u.2.m)), (a3, .inl (cI, 49, .inl u.1.im)), (a4, .inl (cI, 49, .inl u.2.ws)), (a5, .inl (cI, 96, .inl u.1.lt)), (a6, .inl (cI, 16, .inl u.1.rw)), (a7, .inl (cI, 7, .inl u.1.rf)), (a8, .inl (cI, 3, .inl u.2.nb))])) (va_A [(a0, .inr (3, [.ref a1, .ref a2, .ref a3, .ref a4, .int gg.hs, .ref a5, .ref a6, .ref a7, .int (nI gg.L), .int (nI gg.M), .int mm.pl, .ref a8, .int mm.sd])), (a1, .inl (cI, 49, .inl gg.r)), (a2, .inl (cI, 49, .inl mm.m)), (a3, .inl (cI, 49, .inl gg.im)), (a4, .inl (cI, 49, .inl mm.ws)), (a5, .inl (cI, 96, .inl gg.lt)), (a6, .inl (cI, 16, .inl gg.rw)), (a7, .inl (cI, 7, .inl gg.rf)), (a8, .inl (cI, 3, .inl mm.nb))] sz)) 0 0 (va_A [(a0, .inr (3, [.ref a1, .ref a2, .ref a3, .ref a4, .int gg.hs, .ref a5, .ref a6, .ref a7, .int (nI gg.L), .int (nI gg.M), .int mm.pl, .ref a8, .int mm.sd])), (a1, .inl (cI, 49, .inl gg.r)), (a2, .inl (cI, 49, .inl mm.m)), (a3, .inl (cI, 49, .inl gg.im)), (a4, .inl (cI, 49, .inl mm.ws)), (a5, .inl (cI, 96, .inl gg.lt)), (a6, .inl (cI, 16, .inl gg.rw)), (a7, .inl (cI, 7, .inl gg.rf)), (a8, .inl (cI, 3, .inl mm.nb))] sz) := by
  refine st_rwl (cc := cX4_mean) (maxL := 4) (by decide) rfl (Nat.le_of_ble_eq_true rfl) ?_
  intro p e s m below meth c Q ls A hx hb hml hts hown hP hK hD hA hS hl hret
  replace hown : s.vm.findClass RX4 = some m.cls := hown
  replace hl : lv_has ls 4 [(0, .ref a0), (1, .int p0)] := hl
  obtain ⟨H, hH⟩ : ∃ z, z = s.heap := ⟨_, rfl⟩
  obtain ⟨locs, hlo⟩ : ∃ z : List Loc, z = [] := ⟨_, rfl⟩
  replace hP : va_P D vwCl [(a0, .inr (3, [.ref a1, .ref a2, .ref a3, .ref a4, .int gg.hs, .ref a5, .ref a6, .ref a7, .int (nI gg.L), .int (nI gg.M), .int mm.pl, .ref a8, .int mm.sd])), (a1, .inl (cI, 49, .inl gg.r)), (a2, .inl (cI, 49, .inl mm.m)), (a3, .inl (cI, 49, .inl gg.im)), (a4, .inl (cI, 49, .inl mm.ws)), (a5, .inl (cI, 96, .inl gg.lt)), (a6, .inl (cI, 16, .inl gg.rw)), (a7, .inl (cI, 7, .inl gg.rf)), (a8, .inl (cI, 3, .inl mm.nb))] H := by rw [hH]; exact hP
  replace hS : va_S A s.heap H locs := by rw [hH, hlo]; exact hS
  show W p l e ({ frames := 5, cells := 0, slots := 0, locals := 109 }) s m [.ref a0, .int p0].toArray below meth c s.heap [] 0 0 Q (F0 m 0 ls [])
  rw [← hlo]
  suffices hgo : W p l e ({ frames := 5, cells := 0, slots := 0, locals := 109 }) s m [.ref a0, .int p0].toArray below meth c H locs 0 0 Q (F0 m 0 ls []) by rw [hH] at hgo; exact hgo
  clear hH hlo
  have hi_X4 : ∀ w ∈ wsX40, w ∈ wsX4_mean := fun w h => List.mem_cons_of_mem _ (List.mem_append_right _ (h))
  have hk_9 := hts (.fieldLink RX4 9 "NestsOfTalkModel" "s" "[I") (List.mem_of_getElem? (i := 1) rfl)
  have hI := hG.inv
  have hn9 := hI.le
  have hL96 := hG.L96
  have hM16 := hG.M16
  refine lv_iload_n hx hb dX4_mean_0 rfl (lv_at hl 1 rfl) ?_
  refine lv_iconst (v := 0) hx hb dX4_mean_1 (by decide) ?_
  refine lv_iconst (v := 1) hx hb dX4_mean_2 (by decide) ?_
  refine xc_Si (As := [.int p0, .int 0, .int 1]) (rest := []) ⟨hx, hb, hml, hown, hts⟩ (kX4_isIn l D cI p0 0 1) (va_cwS 3 hts gX4_mean_X4_isIn rfl rfl rfl hs_X4_isIn ⟨Nat.le_of_ble_eq_true rfl, Nat.le_of_ble_eq_true rfl⟩) hK hP [] rfl rfl hl.1 rfl (Nat.le_of_ble_eq_true rfl) dX4_mean_3 ⟨Nat.zero_le _, Nat.zero_le _⟩ (fun r_1 hr_1 => ?_)
  refine lv_if_ne (tgt := 16) hx hb dX4_mean_6 (by decide) (fun c_2 => ?_) (fun c_2 => ?_)
  · skip
    have hb_2 : isI p0 0 1 = true := bool_t (hr_1.trans isI_ite) c_2
    obtain ⟨i_2, il_2, iu_2, ei_2⟩ := isI_nat (a := 0) (b := 1) (rfl : (0 : Int32) = nI 0) (rfl : (1 : Int32) = nI 1) (by decide) (by omega) hb_2
    have tn_2 : tN p0 = i_2 := by rw [ei_2]; exact tN_nI (by omega)
    refine lv_iconst (v := 0) hx hb dX4_mean_16 (by decide) ?_
    refine lv_istore_n (lv' := [(2, .int 0), (0, .ref a0), (1, .int p0)]) hx hb dX4_mean_17 rfl hl (by decide) rfl (fun ls hl => ?_)
    refine lv_iconst (v := 0) hx hb dX4_mean_18 (by decide) ?_
    refine lv_istore_n (lv' := [(3, .int 0), (2, .int 0), (0, .ref a0), (1, .int p0)]) hx hb dX4_mean_19 rfl hl (by decide) rfl (fun ls hl => ?_)
    have lp_20_3 : ∀ (fu : Nat) (w : Nat) (x3 : Int32) (x2 : Int32) (ls : Array Slot) (H : Heap) (locs : List Loc), 4 - w < fu → (x3 = nI w) → (w ≤ 4) → (x2 = nI (meC gg.r gg.n w)) → va_P D vwCl [(a0, .inr (3, [.ref a1, .ref a2, .ref a3, .ref a4, .int gg.hs, .ref a5, .ref a6, .ref a7, .int (nI gg.L), .int (nI gg.M), .int mm.pl, .ref a8, .int mm.sd])), (a1, .inl (cI, 49, .inl gg.r)), (a2, .inl (cI, 49, .inl mm.m)), (a3, .inl (cI, 49, .inl gg.im)), (a4, .inl (cI, 49, .inl mm.ws)), (a5, .inl (cI, 96, .inl gg.lt)), (a6, .inl (cI, 16, .inl gg.rw)), (a7, .inl (cI, 7, .inl gg.rf)), (a8, .inl (cI, 3, .inl mm.nb))] H → va_D A [(a0, .inr (3, [.ref a1, .ref a2, .ref a3, .ref a4, .int gg.hs, .ref a5, .ref a6, .ref a7, .int (nI gg.L), .int (nI gg.M), .int mm.pl, .ref a8, .int mm.sd])), (a1, .inl (cI, 49, .inl gg.r)), (a2, .inl (cI, 49, .inl mm.m)), (a3, .inl (cI, 49, .inl gg.im)), (a4, .inl (cI, 49, .inl mm.ws)), (a5, .inl (cI, 96, .inl gg.lt)), (a6, .inl (cI, 16, .inl gg.rw)), (a7, .inl (cI, 7, .inl gg.rf)), (a8, .inl (cI, 3, .inl mm.nb))] → va_S A s.heap H locs → lv_has ls 4 [(3, .int x3), (2, .int x2), (0, .ref a0), (1, .int p0)] → W p l e ({ frames := 5, cells := 0, slots := 0, locals := 109 }) s m [.ref a0, .int p0].toArray below meth c H locs 0 0 Q (F0 m 20 ls []) := by
      intro fu
      induction fu with
      | zero =>
        intro w x3 x2 ls H locs hfu
        exact absurd hfu (Nat.not_lt_zero _)
      | succ fu ih_3 =>
        intro w x3 x2 ls H locs hfu hx3 hw hx2 hP hD hS hl
        refine lv_iload_n hx hb dX4_mean_20 rfl (lv_at hl 0 rfl) ?_
        refine lv_iconst (v := 4) hx hb dX4_mean_21 (by decide) ?_
        refine lv_icmp_ge (tgt := 50) hx hb dX4_mean_22 (by decide) (fun c_4 => ?_) (fun c_4 => ?_)
        · skip
          have n_4 : 4 ≤ w := (ni_le (a := 4) (b := w) (rfl : (4 : Int32) = nI 4) hx3 (by decide) (by omega)).mp c_4
          have d_4 : ¬ x3 < 4 := Int32.not_lt.2 c_4
          have m_4 : ¬ w < 4 := by omega
          refine lv_aload_n hx hb dX4_mean_50 rfl (lv_at hl 2 rfl) ?_
          refine va_get (D := D) (ci := 3) (v := .ref a1) (C := RX4) (T := TX4) (N := 13) hx hb hts hi_X4 hown hK.1 hP 0 rfl rfl 0 (by decide) hk_9 (fun _ h9 => h9) rfl dX4_mean_51 ?_
          refine xc_Si (As := [.ref a1]) (rest := []) ⟨hx, hb, hml, hown, hts⟩ (kX4_softAll l D cI a1 gg.r gg.n hI) (va_cwS 1 hts gX4_mean_X4_softAll rfl rfl rfl hs_X4_softAll ⟨Nat.le_of_ble_eq_true rfl, Nat.le_of_ble_eq_true rfl⟩) hK hP [1] rfl rfl hl.1 rfl (Nat.le_of_ble_eq_true rfl) dX4_mean_54 ⟨Nat.zero_le _, Nat.zero_le _⟩ (fun r_5 hr_5 => ?_)
          obtain ⟨sx, hsx, esx⟩ := sumN_le hI (inS gg.r gg.n) 1 gg.n (Nat.le_refl _)
          have tn_s : tN (sumN gg.r (inS gg.r gg.n) 1 gg.n) = sx := by rw [esx]; exact tN_nI (by omega)
          have es_5 : r_5 = nI sx := hr_5.trans esx
          have hmc := meC_le gg.r gg.n 4
          refine lv_i2l (v := r_5.toInt64) hx hb dX4_mean_57 rfl ?_
          refine lv_iload_n hx hb dX4_mean_58 rfl (lv_at hl 1 rfl) ?_
          refine lv_i2l (v := x2.toInt64) hx hb dX4_mean_59 rfl ?_
          refine lv_iload_n hx hb dX4_mean_60 rfl (lv_at hl 3 rfl) ?_
          refine xc_Sl (As := [.long r_5.toInt64, .long x2.toInt64, .int p0]) (rest := []) ⟨hx, hb, hml, hown, hts⟩ (kX4_partOf l D cI sx (meC gg.r gg.n 4) r_5.toInt64 x2.toInt64 p0 (by rw [es_5]; exact nI_toL (by omega)) (by have e9 : w = 4 := (by omega); rw [hx2, e9]; exact nI_toL (by omega)) (by omega) (by omega)) (va_cwS 3 hts gX4_mean_X4_partOf rfl rfl rfl hs_X4_partOf ⟨Nat.le_of_ble_eq_true rfl, Nat.le_of_ble_eq_true rfl⟩) hK hP [] rfl rfl hl.1 rfl (Nat.le_of_ble_eq_true rfl) dX4_mean_61 ⟨Nat.zero_le _, Nat.zero_le _⟩ (fun r_6 hr_6 => ?_)
          exact hret 64 _ r_6 (gg, mm) _ _ dX4_mean_64 (by first | (simp [sp_mean, rfzL, rfz, us, c_2, c_4, hb_2, tn_2, n_4, tn_s, hr_6, hr_5]; done) | (simp [sp_mean, rfzL, rfz, us, c_2, c_4, hb_2, tn_2, n_4, tn_s, hr_6, hr_5, isI]; done)) hP hD hS
        have n_4 : ¬ 4 ≤ w := fun q => c_4 ((ni_le (a := 4) (b := w) (rfl : (4 : Int32) = nI 4) hx3 (by decide) (by omega)).mpr q)
        have d_4 : x3 < 4 := Int32.not_le.1 c_4
        have m_4 : w < 4 := by omega
        refine lv_iload_n hx hb dX4_mean_25 rfl (lv_at hl 1 rfl) ?_
        refine lv_aload_n hx hb dX4_mean_26 rfl (lv_at hl 2 rfl) ?_
        refine va_get (D := D) (ci := 3) (v := .ref a1) (C := RX4) (T := TX4) (N := 13) hx hb hts hi_X4 hown hK.1 hP 0 rfl rfl 0 (by decide) hk_9 (fun _ h9 => h9) rfl dX4_mean_27 ?_
        refine lv_iload_n hx hb dX4_mean_30 rfl (lv_at hl 0 rfl) ?_
        refine xc_Si (As := [.ref a1, .int x3]) (rest := [.int x2]) ⟨hx, hb, hml, hown, hts⟩ (kX4_nestIn l D cI a1 gg.r gg.n hI x3) (va_cwS 2 hts gX4_mean_X4_nestIn rfl rfl rfl hs_X4_nestIn ⟨Nat.le_of_ble_eq_true rfl, Nat.le_of_ble_eq_true rfl⟩) hK hP [1] rfl rfl hl.1 rfl (Nat.le_of_ble_eq_true rfl) dX4_mean_31 ⟨Nat.zero_le _, Nat.zero_le _⟩ (fun r_7 hr_7 => ?_)
        refine lv_if_eq (tgt := 41) hx hb dX4_mean_34 (by decide) (fun c_8 => ?_) (fun c_8 => ?_)
        · skip
          refine lv_iconst (v := 0) hx hb dX4_mean_41 (by decide) ?_
          refine lv_iadd hx hb dX4_mean_42 ?_
          refine lv_topi (fun x_9 ex_9 => ?_)
          refine lv_istore_n (lv' := [(2, .int x_9), (3, .int x3), (0, .ref a0), (1, .int p0)]) hx hb dX4_mean_43 rfl hl (by decide) rfl (fun ls hl => ?_)
          obtain ⟨x_10, ex_10⟩ : ∃ z : Int32, z = x3 + 1 := ⟨_, rfl⟩
          refine lv_iinc (v := x_10) (lv' := [(3, .int x_10), (2, .int x_9), (0, .ref a0), (1, .int p0)]) hx hb dX4_mean_44 hl (k := 1) rfl (by rw [ex_10]; rfl) (by decide) rfl (fun ls hl => ?_)
          refine lv_goto (tgt := 20) hx hb dX4_mean_47 (by decide) ?_
          exact ih_3 (w + 1) x_10 x_9 _ _ _ (by omega) (ni_add (a := w) (b := 1) ex_10 hx3 (rfl : (1 : Int32) = nI 1)) (by omega) (by rw [hr_7, hx3] at c_8; rw [ex_9, hx2, meC, if_pos c_8]; exact (nI_add _ _)) hP hD hS (lv_sub hl [0, 1, 2, 3] rfl)
        refine lv_iconst (v := 1) hx hb dX4_mean_37 (by decide) ?_
        refine lv_goto (tgt := 42) hx hb dX4_mean_38 (by decide) ?_
        refine lv_iadd hx hb dX4_mean_42 ?_
        refine lv_topi (fun x_11 ex_11 => ?_)
        refine lv_istore_n (lv' := [(2, .int x_11), (3, .int x3), (0, .ref a0), (1, .int p0)]) hx hb dX4_mean_43 rfl hl (by decide) rfl (fun ls hl => ?_)
        obtain ⟨x_12, ex_12⟩ : ∃ z : Int32, z = x3 + 1 := ⟨_, rfl⟩
        refine lv_iinc (v := x_12) (lv' := [(3, .int x_12), (2, .int x_11), (0, .ref a0), (1, .int p0)]) hx hb dX4_mean_44 hl (k := 1) rfl (by rw [ex_12]; rfl) (by decide) rfl (fun ls hl => ?_)
        refine lv_goto (tgt := 20) hx hb dX4_mean_47 (by decide) ?_
        exact ih_3 (w + 1) x_12 x_11 _ _ _ (by omega) (ni_add (a := w) (b := 1) ex_12 hx3 (rfl : (1 : Int32) = nI 1)) (by omega) (by rw [hr_7, hx3] at c_8; rw [ex_11, hx2, meC, if_neg c_8]; exact (nI_add _ 1)) hP hD hS (lv_sub hl [0, 1, 2, 3] rfl)
    exact lp_20_3 ((4 - 0) + 1) 0 0 0 _ _ _ (by omega) (rfl : (0 : Int32) = nI 0) (by omega) rfl hP hD hS (lv_sub hl [0, 1, 2, 3] rfl)
  have hb_2 : isI p0 0 1 = false := bool_f (hr_1.trans isI_ite) c_2
  refine lv_aload_n hx hb dX4_mean_9 rfl (lv_at hl 0 rfl) ?_
  refine lv_bipush (v := (-2)) hx hb dX4_mean_10 (by decide) ?_
  refine xw_Vl (As := [.int (-2)]) (rest := []) (Wn := fun u => [(a0, .inr (3, [.ref a1, .ref a2, .ref a3, .ref a4, .int gg.hs, .ref a5, .ref a6, .ref a7, .int (nI gg.L), .int (nI gg.M), .int mm.pl, .ref a8, .int mm.sd])), (a1, .inl (cI, 49, .inl gg.r)), (a2, .inl (cI, 49, .inl mm.m)), (a3, .inl (cI, 49, .inl gg.im)), (a4, .inl (cI, 49, .inl mm.ws)), (a5, .inl (cI, 96, .inl gg.lt)), (a6, .inl (cI, 16, .inl gg.rw)), (a7, .inl (cI, 7, .inl (upd gg.rf (cN (-2)) (gg.rf (cN (-2)) + 1)))), (a8, .inl (cI, 3, .inl mm.nb))]) (Wr := [(a1, .inl (cI, 49, .inl gg.r)), (a2, .inl (cI, 49, .inl mm.m)), (a3, .inl (cI, 49, .inl gg.im)), (a4, .inl (cI, 49, .inl mm.ws)), (a5, .inl (cI, 96, .inl gg.lt)), (a6, .inl (cI, 16, .inl gg.rw)), (a8, .inl (cI, 3, .inl mm.nb))]) ⟨hx, hb, hml, hown, hts⟩ (kX4_noWide l D cI H.size a0 a1 a2 a3 a4 a5 a6 a7 a8 gg mm (-2) okc_2) (cwV 1 hts gX4_mean_X4_noWide rfl rfl rfl hv_X4_noWide ⟨Nat.le_of_ble_eq_true rfl, Nat.le_of_ble_eq_true rfl⟩) hK hP hD hS hA [0, 7] [1, 2, 3, 4, 5, 6, 8] [7, 0, 1, 2, 3, 4, 5, 8, 6] rfl rfl (by decide) (by decide) (by decide) (by decide) (fun u => rfl) 0 rfl rfl rfl hl.1 rfl (Nat.le_of_ble_eq_true rfl) dX4_mean_12 ⟨Nat.zero_le _, Nat.zero_le _⟩ (fun r_13 u_13 H locs hw_13 hP hD hS => ?_)
  exact hret 15 _ r_13 ((gg.n, gg.r, gg.m, gg.im, gg.hs, gg.lt, gg.L, gg.rw, gg.M, (upd gg.rf (cN (-2)) (gg.rf (cN (-2)) + 1))), mm) _ _ dX4_mean_15 (by first | (simp [sp_mean, rfzL, rfz, us, c_2, hb_2, hw_13]; done) | (simp [sp_mean, rfzL, rfz, us, c_2, hb_2, hw_13, isI]; done)) hP hD hS


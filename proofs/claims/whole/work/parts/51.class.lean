theorem hs_X0_tellStatement : yX0_tellStatement.cls ≠ "java/lang/invoke/MethodHandle" ∧ yX0_tellStatement.cls ≠ "java/lang/invoke/VarHandle" ∧ (parseMethodDescriptor yX0_tellStatement.desc).map (fun d => d.parameters.length) = some 2 := by decide +kernel
theorem hv_X0_tellStatement : yX0_tellStatement.cls = RX0 ∧ yX0_tellStatement.cls ≠ "java/lang/invoke/MethodHandle" ∧ yX0_tellStatement.cls ≠ "java/lang/invoke/VarHandle" ∧ (parseMethodDescriptor yX0_tellStatement.desc).map (fun d => d.parameters.length) = some 2 := ⟨rfl, hs_X0_tellStatement⟩
set_option maxHeartbeats 4000000 in
set_option maxRecDepth 100000 in
theorem kX0_tellStatement (l : Launch) (D : va_G) (cI : ClassId) (sz : Nat) (y16 y17 L : Nat) (lt : RR) (hL : L ≤ 96) (h hk hf hw ht : Nat) (u : TK) (r : RR) (n : Nat) (hR : Rep n r u) (hlo : u.lo = 0) (huw : u.uw = 0) (hk3 : r 3 = -9) (p0 : Int32) (s0 : Nat) (hp0 : p0 = nI s0) (hs0 : s0 < L) (hok : (rsF (hrF lt L) s0).1 = true) : Met l yX0_tellStatement wsX0_tellStatement ({ frames := 4, cells := 0, slots := 0, locals := 89 }) (PRW D cI [.ref y16, .ref h, .int p0] [(y16, .inr (0, [.ref y17, .int (nI L)])), (y17, .inl (cI, 96, .inl lt)), (h, .inr (1, [.int u.sz, .int u.dy, .int u.rb, .int u.ins, .int u.fo, .int u.fl, .int u.uw, .int u.lo, .ref hk, .ref hf, .ref hw, .ref ht])), (hk, .inl (cI, 9, .inl u.kd)), (hf, .inl (cI, 9, .inl u.fg)), (hw, .inl (cI, 9, .inl u.wn)), (ht, .inl (cI, 4, .inl u.tl))] sz) (va_Qi (S := TK) (fun v u2 => v = (if (dnF n r ((hrF lt L) s0) (nbA (hrF lt L) s0) (nbB (hrF lt L) s0) (nbC (hrF lt L) s0)).1 = true then 1 else 0) ∧ Rep (dnF n r ((hrF lt L) s0) (nbA (hrF lt L) s0) (nbB (hrF lt L) s0) (nbC (hrF lt L) s0)).2.1 (dnF n r ((hrF lt L) s0) (nbA (hrF lt L) s0) (nbB (hrF lt L) s0) (nbC (hrF lt L) s0)).2.2 u2 ∧ u2.lo = 0 ∧ u2.uw = 0) (BRW D [(y16, .inr (0, [.ref y17, .int (nI L)])), (y17, .inl (cI, 96, .inl lt)), (h, .inr (1, [.int u.sz, .int u.dy, .int u.rb, .int u.ins, .int u.fo, .int u.fl, .int u.uw, .int u.lo, .ref hk, .ref hf, .ref hw, .ref ht])), (hk, .inl (cI, 9, .inl u.kd)), (hf, .inl (cI, 9, .inl u.fg)), (hw, .inl (cI, 9, .inl u.wn)), (ht, .inl (cI, 4, .inl u.tl))] sz (fun u => [(y16, .inr (0, [.ref y17, .int (nI L)])), (y17, .inl (cI, 96, .inl lt)), (h, .inr (1, [.int u.sz, .int u.dy, .int u.rb, .int u.ins, .int u.fo, .int u.fl, .int u.uw, .int u.lo, .ref hk, .ref hf, .ref hw, .ref ht])), (hk, .inl (cI, 9, .inl u.kd)), (hf, .inl (cI, 9, .inl u.fg)), (hw, .inl (cI, 9, .inl u.wn)), (ht, .inl (cI, 4, .inl u.tl))])) (va_A [(y16, .inr (0, [.ref y17, .int (nI L)])), (y17, .inl (cI, 96, .inl lt)), (h, .inr (1, [.int u.sz, .int u.dy, .int u.rb, .int u.ins, .int u.fo, .int u.fl, .int u.uw, .int u.lo, .ref hk, .ref hf, .ref hw, .ref ht])), (hk, .inl (cI, 9, .inl u.kd)), (hf, .inl (cI, 9, .inl u.fg)), (hw, .inl (cI, 9, .inl u.wn)), (ht, .inl (cI, 4, .inl u.tl))] sz)) 0 0 (va_A [(y16, .inr (0, [.ref y17, .int (nI L)])), (y17, .inl (cI, 96, .inl lt)), (h, .inr (1, [.int u.sz, .int u.dy, .int u.rb, .int u.ins, .int u.fo, .int u.fl, .int u.uw, .int u.lo, .ref hk, .ref hf, .ref hw, .ref ht])), (hk, .inl (cI, 9, .inl u.kd)), (hf, .inl (cI, 9, .inl u.fg)), (hw, .inl (cI, 9, .inl u.wn)), (ht, .inl (cI, 4, .inl u.tl))] sz) := by
  refine st_rwi (cc := cX0_tellStatement) (maxL := 6) (rt := .boolean) (by decide) rfl (Nat.le_of_ble_eq_true rfl) (by rintro v u ⟨h, _⟩; subst h; split <;> rfl) ?_
  intro p e s m below meth c Q ls A hx hb hml hts hown hP hK hD hA hS hl hret
  replace hown : s.vm.findClass RX0 = some m.cls := hown
  replace hl : lv_has ls 6 [(0, .ref y16), (1, .ref h), (2, .int p0)] := hl
  obtain ⟨H, hH⟩ : ∃ z, z = s.heap := ⟨_, rfl⟩
  obtain ⟨locs, hlo⟩ : ∃ z : List Loc, z = [] := ⟨_, rfl⟩
  replace hP : va_P D vwCl [(y16, .inr (0, [.ref y17, .int (nI L)])), (y17, .inl (cI, 96, .inl lt)), (h, .inr (1, [.int u.sz, .int u.dy, .int u.rb, .int u.ins, .int u.fo, .int u.fl, .int u.uw, .int u.lo, .ref hk, .ref hf, .ref hw, .ref ht])), (hk, .inl (cI, 9, .inl u.kd)), (hf, .inl (cI, 9, .inl u.fg)), (hw, .inl (cI, 9, .inl u.wn)), (ht, .inl (cI, 4, .inl u.tl))] H := by rw [hH]; exact hP
  replace hS : va_S A s.heap H locs := by rw [hH, hlo]; exact hS
  show W p l e ({ frames := 4, cells := 0, slots := 0, locals := 89 }) s m [.ref y16, .ref h, .int p0].toArray below meth c s.heap [] 0 0 Q (F0 m 0 ls [])
  rw [← hlo]
  suffices hgo : W p l e ({ frames := 4, cells := 0, slots := 0, locals := 89 }) s m [.ref y16, .ref h, .int p0].toArray below meth c H locs 0 0 Q (F0 m 0 ls []) by rw [hH] at hgo; exact hgo
  clear hH hlo
  have hi_X2 : ∀ w ∈ wsX20, w ∈ wsX0_tellStatement := fun w h => List.mem_cons_of_mem _ (List.mem_append_left _ (List.mem_append_right _ (h)))
  have hini3 := hts (.initialized RX3) (List.mem_of_getElem? (i := 28) rfl)
  have hst3 := hts (.static yX3_isWoman) (List.mem_of_getElem? (i := 27) rfl)
  have hk_68 := hts (.fieldLink RX0 68 "NestsOfTalk$Talk" "day" "I") (List.mem_of_getElem? (i := 2) rfl)
  have hk_54 := hts (.fieldLink RX0 54 "NestsOfTalk$Talk" "worn" "[I") (List.mem_of_getElem? (i := 1) rfl)
  have hn9 := hR.le
  have hrl := rs_len hok
  have hrb := rsF_le lt L s0 hok
  refine lv_aload_n hx hb dX0_tellStatement_0 rfl (lv_at hl 0 rfl) ?_
  refine lv_iload_n hx hb dX0_tellStatement_1 rfl (lv_at hl 2 rfl) ?_
  refine lv_iconst (v := 1) hx hb dX0_tellStatement_2 (by decide) ?_
  refine lv_iadd hx hb dX0_tellStatement_3 ?_
  refine xc_Vi (As := [.int (p0 + 1)]) (rest := []) ⟨hx, hb, hml, hown, hts⟩ (kX0_digitAt l D cI y16 y17 L lt (p0 + 1) (s0 + 1) (ni_add (a := s0) (b := 1) rfl hp0 (rfl : (1 : Int32) = nI 1))  (by omega) (by omega)) (cwV 1 hts gX0_tellStatement_X0_digitAt rfl rfl rfl hv_X0_digitAt ⟨Nat.le_of_ble_eq_true rfl, Nat.le_of_ble_eq_true rfl⟩) hK hP [0, 1] rfl 0 rfl rfl rfl hl.1 rfl (Nat.le_of_ble_eq_true rfl) dX0_tellStatement_4 ⟨Nat.zero_le _, Nat.zero_le _⟩ (fun r_1 hr_1 => ?_)
  have hd1 : r_1 = (hrF lt L) (s0 + 1) - 48 := by rw [hr_1, at_hr (by omega)]
  refine lv_istore_n (lv' := [(3, .int r_1), (0, .ref y16), (1, .ref h), (2, .int p0)]) hx hb dX0_tellStatement_7 rfl hl (by decide) rfl (fun ls hl => ?_)
  refine lv_aload_n hx hb dX0_tellStatement_8 rfl (lv_at hl 1 rfl) ?_
  refine lv_iload_n hx hb dX0_tellStatement_9 rfl (lv_at hl 3 rfl) ?_
  refine lv_iconst (v := 2) hx hb dX0_tellStatement_10 (by decide) ?_
  refine lv_iadd hx hb dX0_tellStatement_11 ?_
  refine xc_Vi (As := [.int (p0 + 2)]) (rest := []) ⟨hx, hb, hml, hown, hts⟩ (kX0_digitAt l D cI y16 y17 L lt (p0 + 2) (s0 + 2) (ni_add (a := s0) (b := 2) rfl hp0 (rfl : (2 : Int32) = nI 2))  (by omega) (by omega)) (cwV 1 hts gX0_tellStatement_X0_digitAt rfl rfl rfl hv_X0_digitAt ⟨Nat.le_of_ble_eq_true rfl, Nat.le_of_ble_eq_true rfl⟩) hK hP [0, 1] rfl 0 rfl rfl rfl hl.1 rfl (Nat.le_of_ble_eq_true rfl) dX0_tellStatement_12 ⟨Nat.zero_le _, Nat.zero_le _⟩ (fun r_2 hr_2 => ?_)
  have hd2 : r_2 = (hrF lt L) (s0 + 2) - 48 := by rw [hr_2, at_hr (by omega)]
  refine lv_istore (lv' := [(4, .int r_2), (3, .int r_1), (0, .ref y16), (1, .ref h), (2, .int p0)]) hx hb dX0_tellStatement_15 hl (by decide) rfl (fun ls hl => ?_)
  refine lv_aload_n hx hb dX0_tellStatement_17 rfl (lv_at hl 2 rfl) ?_
  refine lv_iload_n hx hb dX0_tellStatement_18 rfl (lv_at hl 4 rfl) ?_
  refine xc_Vi (As := [.int p0]) (rest := []) ⟨hx, hb, hml, hown, hts⟩ (kX0_at l D cI y16 y17 L lt p0 s0 hp0  (by omega) (by omega)) (cwV 1 hts gX0_tellStatement_X0_at rfl rfl rfl hv_X0_at ⟨Nat.le_of_ble_eq_true rfl, Nat.le_of_ble_eq_true rfl⟩) hK hP [0, 1] rfl 0 rfl rfl rfl hl.1 rfl (Nat.le_of_ble_eq_true rfl) dX0_tellStatement_19 ⟨Nat.zero_le _, Nat.zero_le _⟩ (fun r_3 hr_3 => ?_)
  have hcc : r_3 = (hrF lt L) s0 := by rw [hr_3, at_hr (by omega)]
  by_cases c_4 : r_3 = 97
  · refine xs_lin (k := 97) (off := 120) (tgt := 142) hx hb dX0_tellStatement_22 c_4 (by decide) (by decide) (by decide) ?_
    rw [hcc] at c_4
    have hA9 : nbA (hrF lt L) s0 = r_1 := by rw [nbA, if_neg (by rw [c_4]; decide), if_neg (by rw [c_4]; decide)]; exact hd1.symm
    have hB9 : nbB (hrF lt L) s0 = r_2 := hd2.symm
    refine lv_aload_n hx hb dX0_tellStatement_142 rfl (lv_at hl 3 rfl) ?_
    refine lv_iload_n hx hb dX0_tellStatement_143 rfl (lv_at hl 1 rfl) ?_
    refine xc_Vi (As := [.int r_1]) (rest := []) ⟨hx, hb, hml, hown, hts⟩ (kX2_knows l D cI h hk hf hw ht u r n hR r_1) (cwV 1 hts gX0_tellStatement_X2_knows rfl rfl rfl hv_X2_knows ⟨Nat.le_of_ble_eq_true rfl, Nat.le_of_ble_eq_true rfl⟩) hK hP [2, 3, 4, 5, 6] rfl 2 rfl rfl rfl hl.1 rfl (Nat.le_of_ble_eq_true rfl) dX0_tellStatement_144 ⟨Nat.zero_le _, Nat.zero_le _⟩ (fun r_5 hr_5 => ?_)
    refine lv_if_eq (tgt := 158) hx hb dX0_tellStatement_147 (by decide) (fun c_6 => ?_) (fun c_6 => ?_)
    · skip
      have hb_6 : sayB n r_1 = false := bool_f hr_5 c_6
      refine lv_iconst (v := 0) hx hb dX0_tellStatement_158 (by decide) ?_
      exact hret 159 _ 0 u _ _ dX0_tellStatement_159 (by have hd : (dnF n r ((hrF lt L) s0) (nbA (hrF lt L) s0) (nbB (hrF lt L) s0) (nbC (hrF lt L) s0)) = (false, n, r) := (by rw [hA9, hB9, c_4, dn_97, if_neg (fun q => by rw [hb_6] at q; cases q.1)]); rw [hd]; exact ⟨rfl, hR, hlo, huw⟩) hP hD hS
    have hb_6 : sayB n r_1 = true := bool_t hr_5 c_6
    obtain ⟨t_6, ht_6, et_6⟩ := (sayB_iff (hR).le).1 hb_6
    have tn_6 : tN r_1 = t_6 := by rw [et_6]; exact tN_nI (by omega)
    refine lv_iload hx hb dX0_tellStatement_150 (lv_at hl 0 rfl) ?_
    refine xc_Ni (As := [.int r_2]) (rest := []) ⟨hx, hb, hml, hown, hts⟩ (kX3_isWoman l D cI r_2) ⟨va_cnB 1 hts gX0_tellStatement_X3_isWoman_n57 rfl rfl rfl hK.2.2.2.2 hini3 hs_X3_isWoman ⟨Nat.le_of_ble_eq_true rfl, Nat.le_of_ble_eq_true rfl⟩, hst3, trivial⟩ hK hP [] rfl rfl hl.1 rfl (Nat.le_of_ble_eq_true rfl) dX0_tellStatement_152 ⟨Nat.zero_le _, Nat.zero_le _⟩ (fun r_7 hr_7 => ?_)
    refine lv_if_ne (tgt := 160) hx hb dX0_tellStatement_155 (by decide) (fun c_8 => ?_) (fun c_8 => ?_)
    · skip
      have hb_8 : womB r_2 = true := bool_t hr_7 c_8
      obtain ⟨w_8, hw_8, ew_8⟩ := womB_iff.1 hb_8
      refine lv_aload_n hx hb dX0_tellStatement_160 rfl (lv_at hl 3 rfl) ?_
      refine lv_iload_n hx hb dX0_tellStatement_161 rfl (lv_at hl 1 rfl) ?_
      refine lv_iload hx hb dX0_tellStatement_162 (lv_at hl 0 rfl) ?_
      refine xw_Vv (As := [.int r_1, .int r_2]) (rest := []) (Wn := fun u => [(y16, .inr (0, [.ref y17, .int (nI L)])), (y17, .inl (cI, 96, .inl lt)), (h, .inr (1, [.int u.sz, .int u.dy, .int u.rb, .int u.ins, .int u.fo, .int u.fl, .int u.uw, .int u.lo, .ref hk, .ref hf, .ref hw, .ref ht])), (hk, .inl (cI, 9, .inl u.kd)), (hf, .inl (cI, 9, .inl u.fg)), (hw, .inl (cI, 9, .inl u.wn)), (ht, .inl (cI, 4, .inl u.tl))]) (Wr := [(y16, .inr (0, [.ref y17, .int (nI L)])), (y17, .inl (cI, 96, .inl lt))]) ⟨hx, hb, hml, hown, hts⟩ (kX2_sayAbout l D cI H.size h hk hf hw ht u r n hR r_1 t_6 et_6 (by omega) r_2 w_8 ew_8 (by omega)) (cwV 2 hts gX0_tellStatement_X2_sayAbout rfl rfl rfl hv_X2_sayAbout ⟨Nat.le_of_ble_eq_true rfl, Nat.le_of_ble_eq_true rfl⟩) hK hP hD hS hA [2, 3, 4, 5, 6] [0, 1] [0, 1, 2, 3, 4, 5, 6] rfl rfl (by decide) (by decide) (by decide) (by decide) (fun u => rfl) 2 rfl rfl rfl hl.1 rfl (Nat.le_of_ble_eq_true rfl) dX0_tellStatement_164 ⟨Nat.zero_le _, Nat.zero_le _⟩ (fun u_9 H locs hw_9 hP hD hS => ?_)
      have hR_9 : Rep n (setAb r t_6 (nI w_8)) u_9 := by rw [hw_9]; exact (hR).say hlo (by omega) (by omega)
      have hlo_9 : u_9.lo = 0 := by rw [hw_9]; exact hlo
      have huw_9 : u_9.uw = 0 := by rw [hw_9]; exact huw
      refine lv_iconst (v := 1) hx hb dX0_tellStatement_167 (by decide) ?_
      exact hret 168 _ 1 u_9 _ _ dX0_tellStatement_168 (by have hd : (dnF n r ((hrF lt L) s0) (nbA (hrF lt L) s0) (nbB (hrF lt L) s0) (nbC (hrF lt L) s0)) = (true, n, (setAb r t_6 (nI w_8))) := (by rw [hA9, hB9, c_4, dn_97, if_pos ⟨hb_6, hb_8⟩, et_6, ew_8, tN_nI (by omega)]); rw [hd]; exact ⟨rfl, hR_9, hlo_9, huw_9⟩) hP hD hS
    have hb_8 : womB r_2 = false := bool_f hr_7 c_8
    refine lv_iconst (v := 0) hx hb dX0_tellStatement_158 (by decide) ?_
    exact hret 159 _ 0 u _ _ dX0_tellStatement_159 (by have hd : (dnF n r ((hrF lt L) s0) (nbA (hrF lt L) s0) (nbB (hrF lt L) s0) (nbC (hrF lt L) s0)) = (false, n, r) := (by rw [hA9, hB9, c_4, dn_97, if_neg (fun q => by rw [hb_8] at q; cases q.2)]); rw [hd]; exact ⟨rfl, hR, hlo, huw⟩) hP hD hS
  by_cases c_10 : r_3 = 98
  · refine xs_lin (k := 98) (off := 147) (tgt := 169) hx hb dX0_tellStatement_22 c_10 (by decide) (by decide) (by decide) ?_
    rw [hcc] at c_10
    have hA9 : nbA (hrF lt L) s0 = r_1 := by rw [nbA, if_neg (by rw [c_10]; decide), if_neg (by rw [c_10]; decide)]; exact hd1.symm
    have hB9 : nbB (hrF lt L) s0 = r_2 := hd2.symm
    refine lv_iload_n hx hb dX0_tellStatement_169 rfl (lv_at hl 1 rfl) ?_
    refine xc_Ni (As := [.int r_1]) (rest := []) ⟨hx, hb, hml, hown, hts⟩ (kX3_isWoman l D cI r_1) ⟨va_cnB 1 hts gX0_tellStatement_X3_isWoman_n57 rfl rfl rfl hK.2.2.2.2 hini3 hs_X3_isWoman ⟨Nat.le_of_ble_eq_true rfl, Nat.le_of_ble_eq_true rfl⟩, hst3, trivial⟩ hK hP [] rfl rfl hl.1 rfl (Nat.le_of_ble_eq_true rfl) dX0_tellStatement_170 ⟨Nat.zero_le _, Nat.zero_le _⟩ (fun r_11 hr_11 => ?_)
    refine lv_if_ne (tgt := 178) hx hb dX0_tellStatement_173 (by decide) (fun c_12 => ?_) (fun c_12 => ?_)
    · skip
      have hb_12 : womB r_1 = true := bool_t hr_11 c_12
      obtain ⟨w_12, hw_12, ew_12⟩ := womB_iff.1 hb_12
      refine lv_aload_n hx hb dX0_tellStatement_178 rfl (lv_at hl 3 rfl) ?_
      refine lv_iload_n hx hb dX0_tellStatement_179 rfl (lv_at hl 1 rfl) ?_
      refine xw_Vv (As := [.int r_1]) (rest := []) (Wn := fun u => [(y16, .inr (0, [.ref y17, .int (nI L)])), (y17, .inl (cI, 96, .inl lt)), (h, .inr (1, [.int u.sz, .int u.dy, .int u.rb, .int u.ins, .int u.fo, .int u.fl, .int u.uw, .int u.lo, .ref hk, .ref hf, .ref hw, .ref ht])), (hk, .inl (cI, 9, .inl u.kd)), (hf, .inl (cI, 9, .inl u.fg)), (hw, .inl (cI, 9, .inl u.wn)), (ht, .inl (cI, 4, .inl u.tl))]) (Wr := [(y16, .inr (0, [.ref y17, .int (nI L)])), (y17, .inl (cI, 96, .inl lt))]) ⟨hx, hb, hml, hown, hts⟩ (kX2_bringDown l D cI H.size h hk hf hw ht u r n hR r_1 w_12 ew_12 (by omega)) (cwV 1 hts gX0_tellStatement_X2_bringDown rfl rfl rfl hv_X2_bringDown ⟨Nat.le_of_ble_eq_true rfl, Nat.le_of_ble_eq_true rfl⟩) hK hP hD hS hA [2, 3, 4, 5, 6] [0, 1] [0, 1, 2, 3, 4, 5, 6] rfl rfl (by decide) (by decide) (by decide) (by decide) (fun u => rfl) 2 rfl rfl rfl hl.1 rfl (Nat.le_of_ble_eq_true rfl) dX0_tellStatement_180 ⟨Nat.zero_le _, Nat.zero_le _⟩ (fun u_13 H locs hw_13 hP hD hS => ?_)
      have hR_13 : Rep n (fall r n (nI w_12)) u_13 := by rw [hw_13]; exact (hR).bring (by omega)
      have hlo_13 : u_13.lo = 0 := by rw [hw_13]; unfold bdT; split <;> exact hlo
      have huw_13 : u_13.uw = 0 := by rw [hw_13]; unfold bdT; split <;> exact huw
      refine lv_iconst (v := 1) hx hb dX0_tellStatement_183 (by decide) ?_
      exact hret 184 _ 1 u_13 _ _ dX0_tellStatement_184 (by have hd : (dnF n r ((hrF lt L) s0) (nbA (hrF lt L) s0) (nbB (hrF lt L) s0) (nbC (hrF lt L) s0)) = (true, n, (fall r n (nI w_12))) := (by rw [hA9, hB9, c_10, dn_98, if_pos hb_12, ew_12]); rw [hd]; exact ⟨rfl, hR_13, hlo_13, huw_13⟩) hP hD hS
    have hb_12 : womB r_1 = false := bool_f hr_11 c_12
    refine lv_iconst (v := 0) hx hb dX0_tellStatement_176 (by decide) ?_
    exact hret 177 _ 0 u _ _ dX0_tellStatement_177 (by have hd : (dnF n r ((hrF lt L) s0) (nbA (hrF lt L) s0) (nbB (hrF lt L) s0) (nbC (hrF lt L) s0)) = (false, n, r) := (by rw [hA9, hB9, c_10, dn_98, if_neg (by rw [hb_12]; decide)]); rw [hd]; exact ⟨rfl, hR, hlo, huw⟩) hP hD hS
  by_cases c_14 : r_3 = 100
  · refine xs_lin (k := 100) (off := 163) (tgt := 185) hx hb dX0_tellStatement_22 c_14 (by decide) (by decide) (by decide) ?_
    rw [hcc] at c_14
    have hA9 : nbA (hrF lt L) s0 = 10 * r_1 + r_2 := by rw [nbA, if_neg (by rw [c_14]; decide), if_pos c_14, dig_as, ← hd1, ← hd2]
    have hB9 : nbB (hrF lt L) s0 = r_2 := hd2.symm
    refine lv_bipush (v := 10) hx hb dX0_tellStatement_185 (by decide) ?_
    refine lv_iload_n hx hb dX0_tellStatement_187 rfl (lv_at hl 1 rfl) ?_
    refine lv_imul hx hb dX0_tellStatement_188 ?_
    refine lv_iload hx hb dX0_tellStatement_189 (lv_at hl 0 rfl) ?_
    refine lv_iadd hx hb dX0_tellStatement_191 ?_
    refine lv_topi (fun x_15 ex_15 => ?_)
    refine lv_istore (lv' := [(5, .int x_15), (4, .int r_2), (3, .int r_1), (0, .ref y16), (1, .ref h), (2, .int p0)]) hx hb dX0_tellStatement_192 hl (by decide) rfl (fun ls hl => ?_)
    refine lv_iload hx hb dX0_tellStatement_194 (lv_at hl 0 rfl) ?_
    refine lv_iconst (v := 1) hx hb dX0_tellStatement_196 (by decide) ?_
    refine lv_icmp_lt (tgt := 220) hx hb dX0_tellStatement_197 (by decide) (fun c_16 => ?_) (fun c_16 => ?_)
    · skip
      have d_16 : ¬ 1 ≤ x_15 := Int32.not_le.2 c_16
      refine lv_iconst (v := 0) hx hb dX0_tellStatement_220 (by decide) ?_
      exact hret 221 _ 0 u _ _ dX0_tellStatement_221 (by have hd : (dnF n r ((hrF lt L) s0) (nbA (hrF lt L) s0) (nbB (hrF lt L) s0) (nbC (hrF lt L) s0)) = (false, n, r) := (by rw [hA9, hB9, c_14, dn_100, if_neg (fun q => by rw [isI_neg (by rw [← ex_15]; exact c_16)] at q; cases q.1)]); rw [hd]; exact ⟨rfl, hR, hlo, huw⟩) hP hD hS
    have d_16 : 1 ≤ x_15 := Int32.not_lt.1 c_16
    refine lv_iload hx hb dX0_tellStatement_200 (lv_at hl 0 rfl) ?_
    refine lv_bipush (v := 60) hx hb dX0_tellStatement_202 (by decide) ?_
    refine lv_icmp_gt (tgt := 220) hx hb dX0_tellStatement_204 (by decide) (fun c_17 => ?_) (fun c_17 => ?_)
    · skip
      have d_17 : ¬ x_15 ≤ 60 := Int32.not_le.2 c_17
      refine lv_iconst (v := 0) hx hb dX0_tellStatement_220 (by decide) ?_
      exact hret 221 _ 0 u _ _ dX0_tellStatement_221 (by have hd : (dnF n r ((hrF lt L) s0) (nbA (hrF lt L) s0) (nbB (hrF lt L) s0) (nbC (hrF lt L) s0)) = (false, n, r) := (by rw [hA9, hB9, c_14, dn_100, if_neg (fun q => by rw [isI_hi (by rw [← ex_15]; exact c_17)] at q; cases q.1)]); rw [hd]; exact ⟨rfl, hR, hlo, huw⟩) hP hD hS
    have d_17 : x_15 ≤ 60 := Int32.not_lt.1 c_17
    refine lv_aload_n hx hb dX0_tellStatement_207 rfl (lv_at hl 4 rfl) ?_
    refine va_get (D := D) (ci := 1) (v := .int u.dy) (C := RX2) (T := TX2) (N := 12) hx hb hts hi_X2 hown hK.1 hP 2 rfl rfl 1 (by decide) hk_68 (fun _ h9 => h9) rfl dX0_tellStatement_208 ?_
    refine lv_iload hx hb dX0_tellStatement_211 (lv_at hl 0 rfl) ?_
    refine lv_iadd hx hb dX0_tellStatement_213 ?_
    refine lv_sipush (v := 999) hx hb dX0_tellStatement_214 (by decide) ?_
    refine lv_icmp_le (tgt := 222) hx hb dX0_tellStatement_217 (by decide) (fun c_18 => ?_) (fun c_18 => ?_)
    · skip
      have d_18 : ¬ 999 < (u.dy + x_15) := Int32.not_lt.2 c_18
      obtain ⟨kd, kd1, kd2, kde⟩ := isI_nat (v := x_15) (lo := 1) (hi := 60) (a := 1) (b := 60) rfl rfl (by decide) (by decide) (by rw [isI, decide_eq_true_eq]; exact ⟨Int32.not_lt.1 c_16, Int32.not_lt.1 c_17⟩)
      have tn_kd : tN x_15 = kd := by rw [kde]; exact tN_nI (by omega)
      have hiT_kd : isI x_15 1 60 = true := by rw [isI, decide_eq_true_eq]; exact ⟨Int32.not_lt.1 c_16, Int32.not_lt.1 c_17⟩
      refine lv_aload_n hx hb dX0_tellStatement_222 rfl (lv_at hl 4 rfl) ?_
      refine lv_iload hx hb dX0_tellStatement_223 (lv_at hl 0 rfl) ?_
      refine xw_Vv (As := [.int x_15]) (rest := []) (Wn := fun u => [(y16, .inr (0, [.ref y17, .int (nI L)])), (y17, .inl (cI, 96, .inl lt)), (h, .inr (1, [.int u.sz, .int u.dy, .int u.rb, .int u.ins, .int u.fo, .int u.fl, .int u.uw, .int u.lo, .ref hk, .ref hf, .ref hw, .ref ht])), (hk, .inl (cI, 9, .inl u.kd)), (hf, .inl (cI, 9, .inl u.fg)), (hw, .inl (cI, 9, .inl u.wn)), (ht, .inl (cI, 4, .inl u.tl))]) (Wr := [(y16, .inr (0, [.ref y17, .int (nI L)])), (y17, .inl (cI, 96, .inl lt))]) ⟨hx, hb, hml, hown, hts⟩ (kX2_passDays l D cI H.size h hk hf hw ht u r n hR x_15 kd kde (by omega)) (cwV 1 hts gX0_tellStatement_X2_passDays rfl rfl rfl hv_X2_passDays ⟨Nat.le_of_ble_eq_true rfl, Nat.le_of_ble_eq_true rfl⟩) hK hP hD hS hA [2, 3, 4, 5, 6] [0, 1] [0, 1, 2, 3, 4, 5, 6] rfl rfl (by decide) (by decide) (by decide) (by decide) (fun u => rfl) 2 rfl rfl rfl hl.1 rfl (Nat.le_of_ble_eq_true rfl) dX0_tellStatement_225 ⟨Nat.zero_le _, Nat.zero_le _⟩ (fun u_19 H locs hw_19 hP hD hS => ?_)
      obtain ⟨hR_19, hF_19⟩ := hw_19
      have hlo_19 : u_19.lo = 0 := hF_19.2.2.trans hlo
      have huw_19 : u_19.uw = 0 := hF_19.2.1.trans huw
      refine lv_iconst (v := 1) hx hb dX0_tellStatement_228 (by decide) ?_
      exact hret 229 _ 1 u_19 _ _ dX0_tellStatement_229 (by have hd : (dnF n r ((hrF lt L) s0) (nbA (hrF lt L) s0) (nbB (hrF lt L) s0) (nbC (hrF lt L) s0)) = (true, n, (dsR r n kd)) := (by rw [hA9, hB9, c_14, dn_100, ← ex_15, if_pos ⟨hiT_kd, by rw [← hR.hdy]; exact c_18⟩, tn_kd]); rw [hd]; exact ⟨rfl, hR_19, hlo_19, huw_19⟩) hP hD hS
    have d_18 : 999 < (u.dy + x_15) := Int32.not_le.1 c_18
    refine lv_iconst (v := 0) hx hb dX0_tellStatement_220 (by decide) ?_
    exact hret 221 _ 0 u _ _ dX0_tellStatement_221 (by have hd : (dnF n r ((hrF lt L) s0) (nbA (hrF lt L) s0) (nbB (hrF lt L) s0) (nbC (hrF lt L) s0)) = (false, n, r) := (by rw [hA9, hB9, c_14, dn_100, if_neg (fun q => c_18 (by rw [ex_15, hR.hdy]; exact q.2))]); rw [hd]; exact ⟨rfl, hR, hlo, huw⟩) hP hD hS
  by_cases c_20 : r_3 = 115
  · refine xs_lin (k := 115) (off := 58) (tgt := 80) hx hb dX0_tellStatement_22 c_20 (by decide) (by decide) (by decide) ?_
    rw [hcc] at c_20
    have hn5 : lnN ((hrF lt L) s0) = 5 := by rw [c_20]; decide
    obtain ⟨ka, hka, eka⟩ := rsF_A hok c_20
    obtain ⟨kb, hkb, ekb⟩ := rsF_B hok (Or.inl c_20)
    rw [nbA, if_pos c_20] at eka
    have ekb2 : r_2 = nI kb := hd2.trans ekb
    have hB9 : nbB (hrF lt L) s0 = r_2 := hd2.symm
    refine lv_aload_n hx hb dX0_tellStatement_80 rfl (lv_at hl 3 rfl) ?_
    refine lv_aload_n hx hb dX0_tellStatement_81 rfl (lv_at hl 2 rfl) ?_
    refine lv_iload_n hx hb dX0_tellStatement_82 rfl (lv_at hl 4 rfl) ?_
    refine lv_iconst (v := 1) hx hb dX0_tellStatement_83 (by decide) ?_
    refine lv_iadd hx hb dX0_tellStatement_84 ?_
    refine xc_Vi (As := [.int (p0 + 1)]) (rest := [.ref h]) ⟨hx, hb, hml, hown, hts⟩ (kX0_at l D cI y16 y17 L lt (p0 + 1) (s0 + 1) (ni_add (a := s0) (b := 1) rfl hp0 (rfl : (1 : Int32) = nI 1))  (by omega) (by omega)) (cwV 1 hts gX0_tellStatement_X0_at rfl rfl rfl hv_X0_at ⟨Nat.le_of_ble_eq_true rfl, Nat.le_of_ble_eq_true rfl⟩) hK hP [0, 1] rfl 0 rfl rfl rfl hl.1 rfl (Nat.le_of_ble_eq_true rfl) dX0_tellStatement_85 ⟨Nat.zero_le _, Nat.zero_le _⟩ (fun r_21 hr_21 => ?_)
    refine xc_Si (As := [.int r_21]) (rest := [.ref h]) ⟨hx, hb, hml, hown, hts⟩ (kX1_ofLetter l D cI r_21) (va_cwS 1 hts gX0_tellStatement_X1_ofLetter rfl rfl rfl hs_X1_ofLetter ⟨Nat.le_of_ble_eq_true rfl, Nat.le_of_ble_eq_true rfl⟩) hK hP [] rfl rfl hl.1 rfl (Nat.le_of_ble_eq_true rfl) dX0_tellStatement_88 ⟨Nat.zero_le _, Nat.zero_le _⟩ (fun r_22 hr_22 => ?_)
    have hkn : r_22 = nI ka := by rw [hr_22, hr_21, at_hr (by omega)]; exact eka
    refine lv_iload hx hb dX0_tellStatement_91 (lv_at hl 0 rfl) ?_
    refine lv_aload_n hx hb dX0_tellStatement_93 rfl (lv_at hl 2 rfl) ?_
    refine lv_iload_n hx hb dX0_tellStatement_94 rfl (lv_at hl 4 rfl) ?_
    refine lv_iconst (v := 3) hx hb dX0_tellStatement_95 (by decide) ?_
    refine lv_iadd hx hb dX0_tellStatement_96 ?_
    refine xc_Vi (As := [.int (p0 + 3)]) (rest := [.int r_2, .int r_22, .ref h]) ⟨hx, hb, hml, hown, hts⟩ (kX0_digitAt l D cI y16 y17 L lt (p0 + 3) (s0 + 3) (ni_add (a := s0) (b := 3) rfl hp0 (rfl : (3 : Int32) = nI 3))  (by omega) (by omega)) (cwV 1 hts gX0_tellStatement_X0_digitAt rfl rfl rfl hv_X0_digitAt ⟨Nat.le_of_ble_eq_true rfl, Nat.le_of_ble_eq_true rfl⟩) hK hP [0, 1] rfl 0 rfl rfl rfl hl.1 rfl (Nat.le_of_ble_eq_true rfl) dX0_tellStatement_97 ⟨Nat.zero_le _, Nat.zero_le _⟩ (fun r_23 hr_23 => ?_)
    have hC9 : nbC (hrF lt L) s0 = r_23 := by rw [nbC, hr_23, at_hr (by omega)]
    refine xw_Vi (As := [.int r_22, .int r_2, .int r_23]) (rest := []) (Wn := fun u => [(y16, .inr (0, [.ref y17, .int (nI L)])), (y17, .inl (cI, 96, .inl lt)), (h, .inr (1, [.int u.sz, .int u.dy, .int u.rb, .int u.ins, .int u.fo, .int u.fl, .int u.uw, .int u.lo, .ref hk, .ref hf, .ref hw, .ref ht])), (hk, .inl (cI, 9, .inl u.kd)), (hf, .inl (cI, 9, .inl u.fg)), (hw, .inl (cI, 9, .inl u.wn)), (ht, .inl (cI, 4, .inl u.tl))]) (Wr := [(y16, .inr (0, [.ref y17, .int (nI L)])), (y17, .inl (cI, 96, .inl lt))]) ⟨hx, hb, hml, hown, hts⟩ (kX2_tellMore l D cI H.size h hk hf hw ht u r n hR r_22 r_2 r_23 ka hkn (by omega) kb ekb2 (by omega) hlo huw hk3) (cwV 3 hts gX0_tellStatement_X2_tellMore rfl rfl rfl hv_X2_tellMore ⟨Nat.le_of_ble_eq_true rfl, Nat.le_of_ble_eq_true rfl⟩) hK hP hD hS hA [2, 3, 4, 5, 6] [0, 1] [0, 1, 2, 3, 4, 5, 6] rfl rfl (by decide) (by decide) (by decide) (by decide) (fun u => rfl) 2 rfl rfl rfl hl.1 rfl (Nat.le_of_ble_eq_true rfl) dX0_tellStatement_100 ⟨Nat.zero_le _, Nat.zero_le _⟩ (fun r_24 u_24 H locs hw_24 hP hD hS => ?_)
    exact hret 103 _ r_24 u_24 _ _ dX0_tellStatement_103 (by have hAe : nbA (hrF lt L) s0 = r_22 := (by rw [nbA, if_pos c_20]; exact eka.trans hkn.symm); rcases hw_24 with ⟨h1, hv, w, hw9, e, hu⟩ | ⟨h1, hv, hu⟩; (have hd : (dnF n r ((hrF lt L) s0) (nbA (hrF lt L) s0) (nbB (hrF lt L) s0) (nbC (hrF lt L) s0)) = (true, n + 1, addR r n r_22 r_2 r_23) := (by rw [hAe, hB9, hC9, c_20, dnF, if_pos rfl, if_pos ⟨womB_iff.2 ⟨w, hw9, e⟩, h1⟩]); rw [hd]; refine ⟨hv, ?_, ?_, ?_⟩; (rw [hu, hkn, ekb2, e]; exact hR.more hlo huw hk3 h1 hka hkb hw9); (rw [hu]; exact hlo); (rw [hu]; exact huw)); (have hd : (dnF n r ((hrF lt L) s0) (nbA (hrF lt L) s0) (nbB (hrF lt L) s0) (nbC (hrF lt L) s0)) = (false, n, r) := (by rw [hAe, hB9, hC9, c_20, dnF, if_pos rfl, if_neg (fun q => h1.elim (fun z => z q.2) (fun z => by rw [q.1] at z; cases z))]); rw [hd]; refine ⟨hv, ?_, ?_, ?_⟩; (rw [hu]; exact hR); (rw [hu]; exact hlo); (rw [hu]; exact huw))) hP hD hS
  by_cases c_25 : r_3 = 116
  · refine xs_lin (k := 116) (off := 82) (tgt := 104) hx hb dX0_tellStatement_22 c_25 (by decide) (by decide) (by decide) ?_
    rw [hcc] at c_25
    have hA9 : nbA (hrF lt L) s0 = r_1 := by rw [nbA, if_neg (by rw [c_25]; decide), if_neg (by rw [c_25]; decide)]; exact hd1.symm
    have hB9 : nbB (hrF lt L) s0 = r_2 := hd2.symm
    refine lv_aload_n hx hb dX0_tellStatement_104 rfl (lv_at hl 3 rfl) ?_
    refine lv_iload_n hx hb dX0_tellStatement_105 rfl (lv_at hl 1 rfl) ?_
    refine xc_Vi (As := [.int r_1]) (rest := []) ⟨hx, hb, hml, hown, hts⟩ (kX2_knows l D cI h hk hf hw ht u r n hR r_1) (cwV 1 hts gX0_tellStatement_X2_knows rfl rfl rfl hv_X2_knows ⟨Nat.le_of_ble_eq_true rfl, Nat.le_of_ble_eq_true rfl⟩) hK hP [2, 3, 4, 5, 6] rfl 2 rfl rfl rfl hl.1 rfl (Nat.le_of_ble_eq_true rfl) dX0_tellStatement_106 ⟨Nat.zero_le _, Nat.zero_le _⟩ (fun r_26 hr_26 => ?_)
    refine lv_if_ne (tgt := 114) hx hb dX0_tellStatement_109 (by decide) (fun c_27 => ?_) (fun c_27 => ?_)
    · skip
      have hb_27 : sayB n r_1 = true := bool_t hr_26 c_27
      obtain ⟨t_27, ht_27, et_27⟩ := (sayB_iff (hR).le).1 hb_27
      have tn_27 : tN r_1 = t_27 := by rw [et_27]; exact tN_nI (by omega)
      refine lv_aload_n hx hb dX0_tellStatement_114 rfl (lv_at hl 3 rfl) ?_
      refine lv_iload_n hx hb dX0_tellStatement_115 rfl (lv_at hl 1 rfl) ?_
      refine xw_Vi (As := [.int r_1]) (rest := []) (Wn := fun u => [(y16, .inr (0, [.ref y17, .int (nI L)])), (y17, .inl (cI, 96, .inl lt)), (h, .inr (1, [.int u.sz, .int u.dy, .int u.rb, .int u.ins, .int u.fo, .int u.fl, .int u.uw, .int u.lo, .ref hk, .ref hf, .ref hw, .ref ht])), (hk, .inl (cI, 9, .inl u.kd)), (hf, .inl (cI, 9, .inl u.fg)), (hw, .inl (cI, 9, .inl u.wn)), (ht, .inl (cI, 4, .inl u.tl))]) (Wr := [(y16, .inr (0, [.ref y17, .int (nI L)])), (y17, .inl (cI, 96, .inl lt))]) ⟨hx, hb, hml, hown, hts⟩ (kX2_turnOver l D cI H.size h hk hf hw ht u r n hR r_1 t_27 et_27 (by omega)) (cwV 1 hts gX0_tellStatement_X2_turnOver rfl rfl rfl hv_X2_turnOver ⟨Nat.le_of_ble_eq_true rfl, Nat.le_of_ble_eq_true rfl⟩) hK hP hD hS hA [2, 3, 4, 5, 6] [0, 1] [0, 1, 2, 3, 4, 5, 6] rfl rfl (by decide) (by decide) (by decide) (by decide) (fun u => rfl) 2 rfl rfl rfl hl.1 rfl (Nat.le_of_ble_eq_true rfl) dX0_tellStatement_116 ⟨Nat.zero_le _, Nat.zero_le _⟩ (fun r_28 u_28 H locs hw_28 hP hD hS => ?_)
      obtain ⟨hr_28, hu_28⟩ := hw_28
      have hR_28 : Rep n (upd r (oF t_27 4) (r (oF t_27 4) ^^^ 1)) u_28 := by rw [hu_28]; exact (hR).turn hlo (by omega)
      have hlo_28 : u_28.lo = 0 := by rw [hu_28]; exact hlo
      have huw_28 : u_28.uw = 0 := by rw [hu_28]; exact huw
      refine lv_pop hx hb dX0_tellStatement_119 rfl ?_
      refine lv_iconst (v := 1) hx hb dX0_tellStatement_120 (by decide) ?_
      exact hret 121 _ 1 u_28 _ _ dX0_tellStatement_121 (by have hd : (dnF n r ((hrF lt L) s0) (nbA (hrF lt L) s0) (nbB (hrF lt L) s0) (nbC (hrF lt L) s0)) = (true, n, (upd r (oF t_27 4) (r (oF t_27 4) ^^^ 1))) := (by rw [hA9, hB9, c_25, dn_116, if_pos hb_27, et_27, tN_nI (by omega)]); rw [hd]; exact ⟨rfl, hR_28, hlo_28, huw_28⟩) hP hD hS
    have hb_27 : sayB n r_1 = false := bool_f hr_26 c_27
    refine lv_iconst (v := 0) hx hb dX0_tellStatement_112 (by decide) ?_
    exact hret 113 _ 0 u _ _ dX0_tellStatement_113 (by have hd : (dnF n r ((hrF lt L) s0) (nbA (hrF lt L) s0) (nbB (hrF lt L) s0) (nbC (hrF lt L) s0)) = (false, n, r) := (by rw [hA9, hB9, c_25, dn_116, if_neg (by rw [hb_27]; decide)]); rw [hd]; exact ⟨rfl, hR, hlo, huw⟩) hP hD hS
  by_cases c_29 : r_3 = 119
  · refine xs_lin (k := 119) (off := 100) (tgt := 122) hx hb dX0_tellStatement_22 c_29 (by decide) (by decide) (by decide) ?_
    rw [hcc] at c_29
    obtain ⟨kb, hkb, ekb⟩ := rsF_B hok (Or.inr c_29)
    have ekb2 : r_2 = nI kb := hd2.trans ekb
    have hA9 : nbA (hrF lt L) s0 = r_1 := by rw [nbA, if_neg (by rw [c_29]; decide), if_neg (by rw [c_29]; decide)]; exact hd1.symm
    have hB9 : nbB (hrF lt L) s0 = r_2 := hd2.symm
    refine lv_aload_n hx hb dX0_tellStatement_122 rfl (lv_at hl 3 rfl) ?_
    refine lv_iload_n hx hb dX0_tellStatement_123 rfl (lv_at hl 1 rfl) ?_
    refine xc_Vi (As := [.int r_1]) (rest := []) ⟨hx, hb, hml, hown, hts⟩ (kX2_knows l D cI h hk hf hw ht u r n hR r_1) (cwV 1 hts gX0_tellStatement_X2_knows rfl rfl rfl hv_X2_knows ⟨Nat.le_of_ble_eq_true rfl, Nat.le_of_ble_eq_true rfl⟩) hK hP [2, 3, 4, 5, 6] rfl 2 rfl rfl rfl hl.1 rfl (Nat.le_of_ble_eq_true rfl) dX0_tellStatement_124 ⟨Nat.zero_le _, Nat.zero_le _⟩ (fun r_30 hr_30 => ?_)
    refine lv_if_ne (tgt := 132) hx hb dX0_tellStatement_127 (by decide) (fun c_31 => ?_) (fun c_31 => ?_)
    · skip
      have hb_31 : sayB n r_1 = true := bool_t hr_30 c_31
      obtain ⟨t_31, ht_31, et_31⟩ := (sayB_iff (hR).le).1 hb_31
      have tn_31 : tN r_1 = t_31 := by rw [et_31]; exact tN_nI (by omega)
      refine lv_aload_n hx hb dX0_tellStatement_132 rfl (lv_at hl 3 rfl) ?_
      refine va_get (D := D) (ci := 1) (v := .ref hw) (C := RX2) (T := TX2) (N := 12) hx hb hts hi_X2 hown hK.1 hP 2 rfl rfl 10 (by decide) hk_54 (fun _ h9 => h9) rfl dX0_tellStatement_133 ?_
      refine lv_iload_n hx hb dX0_tellStatement_136 rfl (lv_at hl 1 rfl) ?_
      refine lv_iload hx hb dX0_tellStatement_137 (lv_at hl 0 rfl) ?_
      refine xa_st hx hb hK hP hD hS 5 rfl (j := t_31) et_31 (by omega) (by decide) dX0_tellStatement_139 (fun H locs hP hD hS => ?_)
      obtain ⟨f_32, ef_32⟩ : ∃ z : Nat → Int32, z = upd u.wn t_31 r_2 := ⟨_, rfl⟩
      replace hP : va_P D vwCl [(y16, .inr (0, [.ref y17, .int (nI L)])), (y17, .inl (cI, 96, .inl lt)), (h, .inr (1, [.int u.sz, .int u.dy, .int u.rb, .int u.ins, .int u.fo, .int u.fl, .int u.uw, .int u.lo, .ref hk, .ref hf, .ref hw, .ref ht])), (hk, .inl (cI, 9, .inl u.kd)), (hf, .inl (cI, 9, .inl u.fg)), (hw, .inl (cI, 9, .inl (upd u.wn t_31 r_2))), (ht, .inl (cI, 4, .inl u.tl))] H := hP
      replace hD : va_D A [(y16, .inr (0, [.ref y17, .int (nI L)])), (y17, .inl (cI, 96, .inl lt)), (h, .inr (1, [.int u.sz, .int u.dy, .int u.rb, .int u.ins, .int u.fo, .int u.fl, .int u.uw, .int u.lo, .ref hk, .ref hf, .ref hw, .ref ht])), (hk, .inl (cI, 9, .inl u.kd)), (hf, .inl (cI, 9, .inl u.fg)), (hw, .inl (cI, 9, .inl (upd u.wn t_31 r_2))), (ht, .inl (cI, 4, .inl u.tl))] := hD
      rw [← ef_32] at hP hD
      refine lv_iconst (v := 1) hx hb dX0_tellStatement_140 (by decide) ?_
      exact hret 141 _ 1 (u.sz, u.dy, u.rb, u.ins, u.fo, u.fl, u.uw, u.lo, u.kd, u.fg, f_32, u.tl) _ _ dX0_tellStatement_141 (by have hd : (dnF n r ((hrF lt L) s0) (nbA (hrF lt L) s0) (nbB (hrF lt L) s0) (nbC (hrF lt L) s0)) = (true, n, (upd r (oF t_31 3) r_2)) := (by rw [hA9, hB9, c_29, dn_119, if_pos hb_31, et_31, tN_nI (by omega)]); rw [hd]; refine ⟨rfl, ?_, hlo, huw⟩; show Rep n _ _; rw [ef_32, ekb2]; exact hR.setW (by omega) hkb) hP hD hS
    have hb_31 : sayB n r_1 = false := bool_f hr_30 c_31
    refine lv_iconst (v := 0) hx hb dX0_tellStatement_130 (by decide) ?_
    exact hret 131 _ 0 u _ _ dX0_tellStatement_131 (by have hd : (dnF n r ((hrF lt L) s0) (nbA (hrF lt L) s0) (nbB (hrF lt L) s0) (nbC (hrF lt L) s0)) = (false, n, r) := (by rw [hA9, hB9, c_29, dn_119, if_neg (by rw [hb_31]; decide)]); rw [hd]; exact ⟨rfl, hR, hlo, huw⟩) hP hD hS
  refine xs_lout (tgt := 230) (ks := [97, 98, 100, 115, 116, 119]) hx hb dX0_tellStatement_22 (List.forall_mem_cons.mpr ⟨c_4, List.forall_mem_cons.mpr ⟨c_10, List.forall_mem_cons.mpr ⟨c_14, List.forall_mem_cons.mpr ⟨c_20, List.forall_mem_cons.mpr ⟨c_25, List.forall_mem_cons.mpr ⟨c_29, fun _ h => absurd h List.not_mem_nil⟩⟩⟩⟩⟩⟩) (by decide) (by decide) (by decide) ?_
  exfalso; apply ts_none hok (by rw [← hcc]; exact c_20) (by rw [← hcc]; exact c_25) (by rw [← hcc]; exact c_29) (by rw [← hcc]; exact c_4) (by rw [← hcc]; exact c_10) (by rw [← hcc]; exact c_14)


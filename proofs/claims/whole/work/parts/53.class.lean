theorem hs_X0_tellTo : yX0_tellTo.cls ≠ "java/lang/invoke/MethodHandle" ∧ yX0_tellTo.cls ≠ "java/lang/invoke/VarHandle" ∧ (parseMethodDescriptor yX0_tellTo.desc).map (fun d => d.parameters.length) = some 1 := by decide +kernel
theorem hv_X0_tellTo : yX0_tellTo.cls = RX0 ∧ yX0_tellTo.cls ≠ "java/lang/invoke/MethodHandle" ∧ yX0_tellTo.cls ≠ "java/lang/invoke/VarHandle" ∧ (parseMethodDescriptor yX0_tellTo.desc).map (fun d => d.parameters.length) = some 1 := ⟨rfl, hs_X0_tellTo⟩
set_option maxHeartbeats 4000000 in
set_option maxRecDepth 100000 in
theorem kX0_tellTo (l : Launch) (D : va_G) (cI : ClassId) (sz : Nat) (y16 y17 L : Nat) (lt : RR) (hL : L ≤ 96) (h hk hf hw ht : Nat) (u : TK) (r : RR) (n : Nat) (hR : Rep n r u) (hlo : u.lo = 0) (huw : u.uw = 0) (hk3 : r 3 = -9) (hAbt : Abt n r) (h9 : (rdA (hrF lt L) L 98 0 0).1 = -9) : Met l yX0_tellTo wsX0_tellTo ({ frames := 5, cells := 0, slots := 0, locals := 114 }) (PRW D cI [.ref y16, .ref h] [(y16, .inr (0, [.ref y17, .int (nI L)])), (y17, .inl (cI, 96, .inl lt)), (h, .inr (1, [.int u.sz, .int u.dy, .int u.rb, .int u.ins, .int u.fo, .int u.fl, .int u.uw, .int u.lo, .ref hk, .ref hf, .ref hw, .ref ht])), (hk, .inl (cI, 9, .inl u.kd)), (hf, .inl (cI, 9, .inl u.fg)), (hw, .inl (cI, 9, .inl u.wn)), (ht, .inl (cI, 4, .inl u.tl))] sz) (va_Qi (S := TK) (fun v u2 => ((tlA (hrF lt L) L n r 98 0 n r).1 = -9 ∧ v = nI (rdA (hrF lt L) L 98 0 0).2 ∧ Rep (tlA (hrF lt L) L n r 98 0 n r).2.1 (tlA (hrF lt L) L n r 98 0 n r).2.2 u2 ∧ u2.lo = 0 ∧ u2.uw = 0 ∧ (tlA (hrF lt L) L n r 98 0 n r).2.2 3 = -9) ∨ (∃ q, q ≤ 96 ∧ (tlA (hrF lt L) L n r 98 0 n r).1 = -2000 - nI q ∧ v = -2000 - nI q ∧ (tlA (hrF lt L) L n r 98 0 n r).2 = (n, r))) (BRW D [(y16, .inr (0, [.ref y17, .int (nI L)])), (y17, .inl (cI, 96, .inl lt)), (h, .inr (1, [.int u.sz, .int u.dy, .int u.rb, .int u.ins, .int u.fo, .int u.fl, .int u.uw, .int u.lo, .ref hk, .ref hf, .ref hw, .ref ht])), (hk, .inl (cI, 9, .inl u.kd)), (hf, .inl (cI, 9, .inl u.fg)), (hw, .inl (cI, 9, .inl u.wn)), (ht, .inl (cI, 4, .inl u.tl))] sz (fun u => [(y16, .inr (0, [.ref y17, .int (nI L)])), (y17, .inl (cI, 96, .inl lt)), (h, .inr (1, [.int u.sz, .int u.dy, .int u.rb, .int u.ins, .int u.fo, .int u.fl, .int u.uw, .int u.lo, .ref hk, .ref hf, .ref hw, .ref ht])), (hk, .inl (cI, 9, .inl u.kd)), (hf, .inl (cI, 9, .inl u.fg)), (hw, .inl (cI, 9, .inl u.wn)), (ht, .inl (cI, 4, .inl u.tl))])) (va_A [(y16, .inr (0, [.ref y17, .int (nI L)])), (y17, .inl (cI, 96, .inl lt)), (h, .inr (1, [.int u.sz, .int u.dy, .int u.rb, .int u.ins, .int u.fo, .int u.fl, .int u.uw, .int u.lo, .ref hk, .ref hf, .ref hw, .ref ht])), (hk, .inl (cI, 9, .inl u.kd)), (hf, .inl (cI, 9, .inl u.fg)), (hw, .inl (cI, 9, .inl u.wn)), (ht, .inl (cI, 4, .inl u.tl))] sz)) 0 0 (va_A [(y16, .inr (0, [.ref y17, .int (nI L)])), (y17, .inl (cI, 96, .inl lt)), (h, .inr (1, [.int u.sz, .int u.dy, .int u.rb, .int u.ins, .int u.fo, .int u.fl, .int u.uw, .int u.lo, .ref hk, .ref hf, .ref hw, .ref ht])), (hk, .inl (cI, 9, .inl u.kd)), (hf, .inl (cI, 9, .inl u.fg)), (hw, .inl (cI, 9, .inl u.wn)), (ht, .inl (cI, 4, .inl u.tl))] sz) := by
  refine st_rwi (cc := cX0_tellTo) (maxL := 4) (rt := .int) (by decide) rfl (Nat.le_of_ble_eq_true rfl) (fun _ _ _ => rfl) ?_
  intro p e s m below meth c Q ls A hx hb hml hts hown hP hK hD hA hS hl hret
  replace hown : s.vm.findClass RX0 = some m.cls := hown
  replace hl : lv_has ls 4 [(0, .ref y16), (1, .ref h)] := hl
  obtain ⟨H, hH⟩ : ∃ z, z = s.heap := ⟨_, rfl⟩
  obtain ⟨locs, hlo⟩ : ∃ z : List Loc, z = [] := ⟨_, rfl⟩
  replace hP : va_P D vwCl [(y16, .inr (0, [.ref y17, .int (nI L)])), (y17, .inl (cI, 96, .inl lt)), (h, .inr (1, [.int u.sz, .int u.dy, .int u.rb, .int u.ins, .int u.fo, .int u.fl, .int u.uw, .int u.lo, .ref hk, .ref hf, .ref hw, .ref ht])), (hk, .inl (cI, 9, .inl u.kd)), (hf, .inl (cI, 9, .inl u.fg)), (hw, .inl (cI, 9, .inl u.wn)), (ht, .inl (cI, 4, .inl u.tl))] H := by rw [hH]; exact hP
  replace hS : va_S A s.heap H locs := by rw [hH, hlo]; exact hS
  show W p l e ({ frames := 5, cells := 0, slots := 0, locals := 114 }) s m [.ref y16, .ref h].toArray below meth c s.heap [] 0 0 Q (F0 m 0 ls [])
  rw [← hlo]
  suffices hgo : W p l e ({ frames := 5, cells := 0, slots := 0, locals := 114 }) s m [.ref y16, .ref h].toArray below meth c H locs 0 0 Q (F0 m 0 ls []) by rw [hH] at hgo; exact hgo
  clear hH hlo
  have hi_X0 : ∀ w ∈ wsX00, w ∈ wsX0_tellTo := fun w h => List.mem_cons_of_mem _ (List.mem_append_left _ (List.mem_append_right _ (h)))
  have hk_15 := hts (.fieldLink RX0 15 "NestsOfTalk$CloseText" "length" "I") (List.mem_of_getElem? (i := 1) rfl)
  have hn9 := hR.le
  refine lv_iconst (v := 0) hx hb dX0_tellTo_0 (by decide) ?_
  refine lv_istore_n (lv' := [(2, .int 0), (0, .ref y16), (1, .ref h)]) hx hb dX0_tellTo_1 rfl hl (by decide) rfl (fun ls hl => ?_)
  refine lv_iconst (v := 0) hx hb dX0_tellTo_2 (by decide) ?_
  refine lv_istore_n (lv' := [(3, .int 0), (2, .int 0), (0, .ref y16), (1, .ref h)]) hx hb dX0_tellTo_3 rfl hl (by decide) rfl (fun ls hl => ?_)
  have lp_4_1 : ∀ (fu : Nat) (s9 : Nat) (m9 : Nat) (fu9 : Nat) (n9 : Nat) (r9 : RR) (x3 : Int32) (x2 : Int32) (u3 : TK) (ls : Array Slot) (H : Heap) (locs : List Loc), L - s9 < fu → (x3 = nI m9) → (x2 = nI s9) → (s9 ≤ L) → (98 ≤ s9 + fu9) → (3 * m9 ≤ s9) → (Rep n9 r9 u3) → (u3.lo = 0) → (u3.uw = 0) → (r9 3 = -9) → (Abt n9 r9) → (PwQ (hrF lt L) L fu9 s9 m9 (rdA (hrF lt L) L 98 0 0)) → (tlA (hrF lt L) L n r fu9 s9 n9 r9 = (tlA (hrF lt L) L n r 98 0 n r)) → va_P D vwCl [(y16, .inr (0, [.ref y17, .int (nI L)])), (y17, .inl (cI, 96, .inl lt)), (h, .inr (1, [.int u3.sz, .int u3.dy, .int u3.rb, .int u3.ins, .int u3.fo, .int u3.fl, .int u3.uw, .int u3.lo, .ref hk, .ref hf, .ref hw, .ref ht])), (hk, .inl (cI, 9, .inl u3.kd)), (hf, .inl (cI, 9, .inl u3.fg)), (hw, .inl (cI, 9, .inl u3.wn)), (ht, .inl (cI, 4, .inl u3.tl))] H → va_D A [(y16, .inr (0, [.ref y17, .int (nI L)])), (y17, .inl (cI, 96, .inl lt)), (h, .inr (1, [.int u3.sz, .int u3.dy, .int u3.rb, .int u3.ins, .int u3.fo, .int u3.fl, .int u3.uw, .int u3.lo, .ref hk, .ref hf, .ref hw, .ref ht])), (hk, .inl (cI, 9, .inl u3.kd)), (hf, .inl (cI, 9, .inl u3.fg)), (hw, .inl (cI, 9, .inl u3.wn)), (ht, .inl (cI, 4, .inl u3.tl))] → va_S A s.heap H locs → lv_has ls 4 [(3, .int x3), (2, .int x2), (0, .ref y16), (1, .ref h)] → W p l e ({ frames := 5, cells := 0, slots := 0, locals := 114 }) s m [.ref y16, .ref h].toArray below meth c H locs 0 0 Q (F0 m 4 ls []) := by
    intro fu
    induction fu with
    | zero =>
      intro s9 m9 fu9 n9 r9 x3 x2 u3 ls H locs hfu
      exact absurd hfu (Nat.not_lt_zero _)
    | succ fu ih_1 =>
      intro s9 m9 fu9 n9 r9 x3 x2 u3 ls H locs hfu hx3 hx2 hle hfu9 h3m hR3 hlo3 huw3 hk33 hAb9 hQ hT9 hP hD hS hl
      refine lv_iload_n hx hb dX0_tellTo_4 rfl (lv_at hl 1 rfl) ?_
      refine lv_aload_n hx hb dX0_tellTo_5 rfl (lv_at hl 2 rfl) ?_
      refine va_get (D := D) (ci := 0) (v := .int (nI L)) (C := RX0) (T := TX0) (N := 2) hx hb hts hi_X0 hown hK.1 hP 0 rfl rfl 1 (by decide) hk_15 (fun _ h9 => h9) rfl dX0_tellTo_6 ?_
      refine lv_icmp_ge (tgt := 50) hx hb dX0_tellTo_9 (by decide) (fun c_2 => ?_) (fun c_2 => ?_)
      · skip
        have n_2 : L ≤ s9 := (ni_le (a := L) (b := s9) rfl hx2 (by omega) (by omega)).mp c_2
        refine lv_iload_n hx hb dX0_tellTo_50 rfl (lv_at hl 0 rfl) ?_
        exact hret 51 _ x3 u3 _ _ dX0_tellTo_51 (Or.inl (by have e1 := tl_end hQ h9 (by omega) hfu9 hL (by omega); have e2 := tl_stop hT9 (by omega) hfu9 hL (by omega); rw [e1, e2]; exact ⟨rfl, hx3, hR3, hlo3, huw3, hk33⟩)) hP hD hS
      have n_2 : ¬ L ≤ s9 := fun q => c_2 ((ni_le (a := L) (b := s9) rfl hx2 (by omega) (by omega)).mpr q)
      refine lv_iload_n hx hb dX0_tellTo_12 rfl (lv_at hl 0 rfl) ?_
      refine lv_bipush (v := 96) hx hb dX0_tellTo_13 (by decide) ?_
      refine lv_icmp_ge (tgt := 50) hx hb dX0_tellTo_15 (by decide) (fun c_3 => ?_) (fun c_3 => ?_)
      · skip
        have n_3 : 96 ≤ m9 := (ni_le (a := 96) (b := m9) (rfl : (96 : Int32) = nI 96) hx3 (by decide) (by omega)).mp c_3
        exfalso; omega
      have n_3 : ¬ 96 ≤ m9 := fun q => c_3 ((ni_le (a := 96) (b := m9) (rfl : (96 : Int32) = nI 96) hx3 (by decide) (by omega)).mpr q)
      obtain ⟨hok9, hQ2⟩ := tl_ok hQ h9 (by omega) hfu9 hL
      have hrl := rs_len hok9
      have hrb := rsF_le lt L s9 hok9
      refine lv_aload_n hx hb dX0_tellTo_18 rfl (lv_at hl 2 rfl) ?_
      refine lv_aload_n hx hb dX0_tellTo_19 rfl (lv_at hl 3 rfl) ?_
      refine lv_iload_n hx hb dX0_tellTo_20 rfl (lv_at hl 1 rfl) ?_
      refine xw_Vi (As := [.ref h, .int x2]) (rest := []) (Wn := fun u => [(y16, .inr (0, [.ref y17, .int (nI L)])), (y17, .inl (cI, 96, .inl lt)), (h, .inr (1, [.int u.sz, .int u.dy, .int u.rb, .int u.ins, .int u.fo, .int u.fl, .int u.uw, .int u.lo, .ref hk, .ref hf, .ref hw, .ref ht])), (hk, .inl (cI, 9, .inl u.kd)), (hf, .inl (cI, 9, .inl u.fg)), (hw, .inl (cI, 9, .inl u.wn)), (ht, .inl (cI, 4, .inl u.tl))]) (Wr := []) ⟨hx, hb, hml, hown, hts⟩ (kX0_tellStatement l D cI H.size y16 y17 L lt (by omega) h hk hf hw ht u3 r9 n9 hR3 hlo3 huw3 hk33 x2 s9 hx2 (by omega) hok9) (cwV 2 hts gX0_tellTo_X0_tellStatement rfl rfl rfl hv_X0_tellStatement ⟨Nat.le_of_ble_eq_true rfl, Nat.le_of_ble_eq_true rfl⟩) hK hP hD hS hA [0, 1, 2, 3, 4, 5, 6] [] [0, 1, 2, 3, 4, 5, 6] rfl rfl (by decide) (by decide) (by decide) (by decide) (fun u => rfl) 0 rfl rfl rfl hl.1 rfl (Nat.le_of_ble_eq_true rfl) dX0_tellTo_21 ⟨Nat.zero_le _, Nat.zero_le _⟩ (fun r_4 u_4 H locs hw_4 hP hD hS => ?_)
      obtain ⟨hd_4, hR_4, hlo_4, huw_4⟩ := hw_4
      refine lv_if_ne (tgt := 33) hx hb dX0_tellTo_24 (by decide) (fun c_5 => ?_) (fun c_5 => ?_)
      · skip
        have hdt : (dnF n9 r9 ((hrF lt L) s9) (nbA (hrF lt L) s9) (nbB (hrF lt L) s9) (nbC (hrF lt L) s9)).1 = true := bool_t hd_4 c_5
        refine lv_iload_n hx hb dX0_tellTo_33 rfl (lv_at hl 1 rfl) ?_
        refine lv_aload_n hx hb dX0_tellTo_34 rfl (lv_at hl 2 rfl) ?_
        refine lv_iload_n hx hb dX0_tellTo_35 rfl (lv_at hl 1 rfl) ?_
        refine xc_Vi (As := [.int x2]) (rest := [.int x2]) ⟨hx, hb, hml, hown, hts⟩ (kX0_at l D cI y16 y17 L lt x2 s9 hx2  (by omega) (by omega)) (cwV 1 hts gX0_tellTo_X0_at rfl rfl rfl hv_X0_at ⟨Nat.le_of_ble_eq_true rfl, Nat.le_of_ble_eq_true rfl⟩) hK hP [0, 1] rfl 0 rfl rfl rfl hl.1 rfl (Nat.le_of_ble_eq_true rfl) dX0_tellTo_36 ⟨Nat.zero_le _, Nat.zero_le _⟩ (fun r_6 hr_6 => ?_)
        refine xc_Si (As := [.int r_6]) (rest := [.int x2]) ⟨hx, hb, hml, hown, hts⟩ (kX0_lengthOf l D cI r_6) (va_cwS 1 hts gX0_tellTo_X0_lengthOf rfl rfl rfl hs_X0_lengthOf ⟨Nat.le_of_ble_eq_true rfl, Nat.le_of_ble_eq_true rfl⟩) hK hP [] rfl rfl hl.1 rfl (Nat.le_of_ble_eq_true rfl) dX0_tellTo_39 ⟨Nat.zero_le _, Nat.zero_le _⟩ (fun r_7 hr_7 => ?_)
        have hln_7 := lnN_le r_6
        have hat : r_6 = hrF lt L s9 := by rw [hr_6]; exact at_hr (by omega)
        have hlw : r_7 = nI (lnN (hrF lt L s9)) := by rw [hr_7, hat]
        refine lv_iadd hx hb dX0_tellTo_42 ?_
        refine lv_topi (fun x_8 ex_8 => ?_)
        refine lv_istore_n (lv' := [(2, .int x_8), (3, .int x3), (0, .ref y16), (1, .ref h)]) hx hb dX0_tellTo_43 rfl hl (by decide) rfl (fun ls hl => ?_)
        obtain ⟨x_9, ex_9⟩ : ∃ z : Int32, z = x3 + 1 := ⟨_, rfl⟩
        refine lv_iinc (v := x_9) (lv' := [(3, .int x_9), (2, .int x_8), (0, .ref y16), (1, .ref h)]) hx hb dX0_tellTo_44 hl (k := 1) rfl (by rw [ex_9]; rfl) (by decide) rfl (fun ls hl => ?_)
        refine lv_goto (tgt := 4) hx hb dX0_tellTo_47 (by decide) ?_
        exact ih_1 (s9 + lnN (hrF lt L s9)) (m9 + 1) (fu9 - 1) ((dnF n9 r9 ((hrF lt L) s9) (nbA (hrF lt L) s9) (nbB (hrF lt L) s9) (nbC (hrF lt L) s9)).2.1) ((dnF n9 r9 ((hrF lt L) s9) (nbA (hrF lt L) s9) (nbB (hrF lt L) s9) (nbC (hrF lt L) s9)).2.2) x_9 x_8 u_4 _ _ _ (by omega) (ni_add (a := m9) (b := 1) ex_9 hx3 (rfl : (1 : Int32) = nI 1)) (ex_8.trans (ni_add (a := s9) (b := (lnN (hrF lt L s9))) rfl hx2 hlw)) (by omega) (by omega) (by omega) hR_4 hlo_4 huw_4 (dn_keep hk33 hAb9).1 (dn_keep hk33 hAb9).2 (by rw [← hrl.1]; exact hQ2) (by rw [← hrl.1]; exact tl_next hT9 (by omega) hfu9 hL hdt) hP hD hS (lv_sub hl [0, 1, 2, 3] rfl)
      have hdt : (dnF n9 r9 ((hrF lt L) s9) (nbA (hrF lt L) s9) (nbB (hrF lt L) s9) (nbC (hrF lt L) s9)).1 = false := bool_f hd_4 c_5
      refine lv_sipush (v := (-2000)) hx hb dX0_tellTo_27 (by decide) ?_
      refine lv_iload_n hx hb dX0_tellTo_30 rfl (lv_at hl 1 rfl) ?_
      refine lv_isub hx hb dX0_tellTo_31 ?_
      exact hret 32 _ ((-2000) - x2) u_4 _ _ dX0_tellTo_32 (Or.inr ⟨s9, by omega, by rw [tl_bad hT9 (by omega) hfu9 hL hdt], by rw [hx2], by rw [tl_bad hT9 (by omega) hfu9 hL hdt]⟩) hP hD hS
  exact lp_4_1 ((L - 0) + 1) 0 0 98 n r 0 0 u _ _ _ (by omega) (rfl : (0 : Int32) = nI 0) (rfl : (0 : Int32) = nI 0) (by omega) (by omega) (by omega) hR hlo huw hk3 hAbt (Or.inl ⟨rfl, Or.inr rfl⟩) rfl hP hD hS (lv_sub hl [0, 1, 2, 3] rfl)


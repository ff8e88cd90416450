theorem hs_X2_passDay : yX2_passDay.cls ≠ "java/lang/invoke/MethodHandle" ∧ yX2_passDay.cls ≠ "java/lang/invoke/VarHandle" ∧ (parseMethodDescriptor yX2_passDay.desc).map (fun d => d.parameters.length) = some 0 := by decide +kernel
theorem hv_X2_passDay : yX2_passDay.cls = RX2 ∧ yX2_passDay.cls ≠ "java/lang/invoke/MethodHandle" ∧ yX2_passDay.cls ≠ "java/lang/invoke/VarHandle" ∧ (parseMethodDescriptor yX2_passDay.desc).map (fun d => d.parameters.length) = some 0 := ⟨rfl, hs_X2_passDay⟩
theorem hs_X2_passDays : yX2_passDays.cls ≠ "java/lang/invoke/MethodHandle" ∧ yX2_passDays.cls ≠ "java/lang/invoke/VarHandle" ∧ (parseMethodDescriptor yX2_passDays.desc).map (fun d => d.parameters.length) = some 1 := by decide +kernel
theorem hv_X2_passDays : yX2_passDays.cls = RX2 ∧ yX2_passDays.cls ≠ "java/lang/invoke/MethodHandle" ∧ yX2_passDays.cls ≠ "java/lang/invoke/VarHandle" ∧ (parseMethodDescriptor yX2_passDays.desc).map (fun d => d.parameters.length) = some 1 := ⟨rfl, hs_X2_passDays⟩
set_option maxHeartbeats 4000000 in
set_option maxRecDepth 100000 in
theorem kX2_passDay (l : Launch) (D : va_G) (cI : ClassId) (sz : Nat) (h hk hf hw ht : Nat) (u : TK) (r : RR) (n : Nat) (hR : Rep n r u) : Met l yX2_passDay wsX2_passDay ({ frames := 2, cells := 0, slots := 0, locals := 45 }) (PRW D cI [.ref h] [(h, .inr (1, [.int u.sz, .int u.dy, .int u.rb, .int u.ins, .int u.fo, .int u.fl, .int u.uw, .int u.lo, .ref hk, .ref hf, .ref hw, .ref ht])), (hk, .inl (cI, 9, .inl u.kd)), (hf, .inl (cI, 9, .inl u.fg)), (hw, .inl (cI, 9, .inl u.wn)), (ht, .inl (cI, 4, .inl u.tl))] sz) (va_Qv (S := TK) (fun u2 => Rep n (dayR r n) u2 ∧ FlR u u2 (dayA r n) n 4) (BRW D [(h, .inr (1, [.int u.sz, .int u.dy, .int u.rb, .int u.ins, .int u.fo, .int u.fl, .int u.uw, .int u.lo, .ref hk, .ref hf, .ref hw, .ref ht])), (hk, .inl (cI, 9, .inl u.kd)), (hf, .inl (cI, 9, .inl u.fg)), (hw, .inl (cI, 9, .inl u.wn)), (ht, .inl (cI, 4, .inl u.tl))] sz (fun u => [(h, .inr (1, [.int u.sz, .int u.dy, .int u.rb, .int u.ins, .int u.fo, .int u.fl, .int u.uw, .int u.lo, .ref hk, .ref hf, .ref hw, .ref ht])), (hk, .inl (cI, 9, .inl u.kd)), (hf, .inl (cI, 9, .inl u.fg)), (hw, .inl (cI, 9, .inl u.wn)), (ht, .inl (cI, 4, .inl u.tl))])) (va_A [(h, .inr (1, [.int u.sz, .int u.dy, .int u.rb, .int u.ins, .int u.fo, .int u.fl, .int u.uw, .int u.lo, .ref hk, .ref hf, .ref hw, .ref ht])), (hk, .inl (cI, 9, .inl u.kd)), (hf, .inl (cI, 9, .inl u.fg)), (hw, .inl (cI, 9, .inl u.wn)), (ht, .inl (cI, 4, .inl u.tl))] sz)) 0 0 (va_A [(h, .inr (1, [.int u.sz, .int u.dy, .int u.rb, .int u.ins, .int u.fo, .int u.fl, .int u.uw, .int u.lo, .ref hk, .ref hf, .ref hw, .ref ht])), (hk, .inl (cI, 9, .inl u.kd)), (hf, .inl (cI, 9, .inl u.fg)), (hw, .inl (cI, 9, .inl u.wn)), (ht, .inl (cI, 4, .inl u.tl))] sz) := by
  refine st_rwv (cc := cX2_passDay) (maxL := 3) (by decide) rfl (Nat.le_of_ble_eq_true rfl) ?_
  intro p e s m below meth c Q ls A hx hb hml hts hown hP hK hD hA hS hl hret
  replace hown : s.vm.findClass RX2 = some m.cls := hown
  replace hl : lv_has ls 3 [(0, .ref h)] := hl
  obtain ⟨H, hH⟩ : ∃ z, z = s.heap := ⟨_, rfl⟩
  obtain ⟨locs, hlo⟩ : ∃ z : List Loc, z = [] := ⟨_, rfl⟩
  replace hP : va_P D vwCl [(h, .inr (1, [.int u.sz, .int u.dy, .int u.rb, .int u.ins, .int u.fo, .int u.fl, .int u.uw, .int u.lo, .ref hk, .ref hf, .ref hw, .ref ht])), (hk, .inl (cI, 9, .inl u.kd)), (hf, .inl (cI, 9, .inl u.fg)), (hw, .inl (cI, 9, .inl u.wn)), (ht, .inl (cI, 4, .inl u.tl))] H := by rw [hH]; exact hP
  replace hS : va_S A s.heap H locs := by rw [hH, hlo]; exact hS
  show W p l e ({ frames := 2, cells := 0, slots := 0, locals := 45 }) s m [.ref h].toArray below meth c s.heap [] 0 0 Q (F0 m 0 ls [])
  rw [← hlo]
  suffices hgo : W p l e ({ frames := 2, cells := 0, slots := 0, locals := 45 }) s m [.ref h].toArray below meth c H locs 0 0 Q (F0 m 0 ls []) by rw [hH] at hgo; exact hgo
  clear hH hlo
  have hi_X2 : ∀ w ∈ wsX20, w ∈ wsX2_passDay := fun w h => List.mem_cons_of_mem _ (List.mem_append_right _ (h))
  have hk_15 := hts (.fieldLink RX2 15 "NestsOfTalk$Talk" "day" "I") (List.mem_of_getElem? (i := 1) rfl)
  have hk_21 := hts (.fieldLink RX2 21 "NestsOfTalk$Talk" "inside" "I") (List.mem_of_getElem? (i := 3) rfl)
  have hk_30 := hts (.fieldLink RX2 30 "NestsOfTalk$Talk" "unwearing" "I") (List.mem_of_getElem? (i := 2) rfl)
  have hn9 := hR.le
  refine lv_aload_n hx hb dX2_passDay_0 rfl (lv_at hl 0 rfl) ?_
  refine lv_dup hx hb dX2_passDay_1 rfl ?_
  refine va_get (D := D) (ci := 1) (v := .int u.dy) (C := RX2) (T := TX2) (N := 12) hx hb hts hi_X2 hown hK.1 hP 0 rfl rfl 1 (by decide) hk_15 (fun _ h9 => h9) rfl dX2_passDay_2 ?_
  refine lv_iconst (v := 1) hx hb dX2_passDay_5 (by decide) ?_
  refine lv_iadd hx hb dX2_passDay_6 ?_
  refine lv_topi (fun x_1 ex_1 => ?_)
  refine va_put (D := D) (ci := 1) (v := .int x_1) (ty := .int) (C := RX2) (T := TX2) (N := 12) hx hb hts hi_X2 tyX2 tyX2_ok nmX2 hown hK.1 hP hD hS 0 rfl rfl 1 (by decide) hk_15 (fun _ h9 => h9) rfl pd_I rfl rfl (Nat.le_of_ble_eq_true rfl) dX2_passDay_7 (fun H locs hP hD hS => ?_)
  have hP : va_P D vwCl [(h, .inr (1, [.int u.sz, .int x_1, .int u.rb, .int u.ins, .int u.fo, .int u.fl, .int u.uw, .int u.lo, .ref hk, .ref hf, .ref hw, .ref ht])), (hk, .inl (cI, 9, .inl u.kd)), (hf, .inl (cI, 9, .inl u.fg)), (hw, .inl (cI, 9, .inl u.wn)), (ht, .inl (cI, 4, .inl u.tl))] H := hP
  have hD : va_D A [(h, .inr (1, [.int u.sz, .int x_1, .int u.rb, .int u.ins, .int u.fo, .int u.fl, .int u.uw, .int u.lo, .ref hk, .ref hf, .ref hw, .ref ht])), (hk, .inl (cI, 9, .inl u.kd)), (hf, .inl (cI, 9, .inl u.fg)), (hw, .inl (cI, 9, .inl u.wn)), (ht, .inl (cI, 4, .inl u.tl))] := hD
  have j_29_2 : ∀ (u3 : TK) (ls : Array Slot) (H : Heap) (locs : List Loc), (Rep n (wrA (upd r 1 (r 1 + 1)) n) u3) → (Sm u u3) → va_P D vwCl [(h, .inr (1, [.int u3.sz, .int u3.dy, .int u3.rb, .int u3.ins, .int u3.fo, .int u3.fl, .int u3.uw, .int u3.lo, .ref hk, .ref hf, .ref hw, .ref ht])), (hk, .inl (cI, 9, .inl u3.kd)), (hf, .inl (cI, 9, .inl u3.fg)), (hw, .inl (cI, 9, .inl u3.wn)), (ht, .inl (cI, 4, .inl u3.tl))] H → va_D A [(h, .inr (1, [.int u3.sz, .int u3.dy, .int u3.rb, .int u3.ins, .int u3.fo, .int u3.fl, .int u3.uw, .int u3.lo, .ref hk, .ref hf, .ref hw, .ref ht])), (hk, .inl (cI, 9, .inl u3.kd)), (hf, .inl (cI, 9, .inl u3.fg)), (hw, .inl (cI, 9, .inl u3.wn)), (ht, .inl (cI, 4, .inl u3.tl))] → va_S A s.heap H locs → lv_has ls 3 [(0, .ref h)] → W p l e ({ frames := 2, cells := 0, slots := 0, locals := 45 }) s m [.ref h].toArray below meth c H locs 0 0 Q (F0 m 29 ls []) := by
    intro u3 ls H locs hR3 hS3 hP hD hS hl
    refine lv_iconst (v := 0) hx hb dX2_passDay_29 (by decide) ?_
    refine lv_istore_n (lv' := [(1, .int 0), (0, .ref h)]) hx hb dX2_passDay_30 rfl hl (by decide) rfl (fun ls hl => ?_)
    have lp_31_3 : ∀ (fu : Nat) (w : Nat) (x1 : Int32) (u4 : TK) (ls : Array Slot) (H : Heap) (locs : List Loc), 4 - w < fu → (x1 = nI w) → (w ≤ 4) → (Rep n (tks (wrA (upd r 1 (r 1 + 1)) n) n w) u4) → (Sm u u4) → va_P D vwCl [(h, .inr (1, [.int u4.sz, .int u4.dy, .int u4.rb, .int u4.ins, .int u4.fo, .int u4.fl, .int u4.uw, .int u4.lo, .ref hk, .ref hf, .ref hw, .ref ht])), (hk, .inl (cI, 9, .inl u4.kd)), (hf, .inl (cI, 9, .inl u4.fg)), (hw, .inl (cI, 9, .inl u4.wn)), (ht, .inl (cI, 4, .inl u4.tl))] H → va_D A [(h, .inr (1, [.int u4.sz, .int u4.dy, .int u4.rb, .int u4.ins, .int u4.fo, .int u4.fl, .int u4.uw, .int u4.lo, .ref hk, .ref hf, .ref hw, .ref ht])), (hk, .inl (cI, 9, .inl u4.kd)), (hf, .inl (cI, 9, .inl u4.fg)), (hw, .inl (cI, 9, .inl u4.wn)), (ht, .inl (cI, 4, .inl u4.tl))] → va_S A s.heap H locs → lv_has ls 3 [(1, .int x1), (0, .ref h)] → W p l e ({ frames := 2, cells := 0, slots := 0, locals := 45 }) s m [.ref h].toArray below meth c H locs 0 0 Q (F0 m 31 ls []) := by
      intro fu
      induction fu with
      | zero =>
        intro w x1 u4 ls H locs hfu
        exact absurd hfu (Nat.not_lt_zero _)
      | succ fu ih_3 =>
        intro w x1 u4 ls H locs hfu hx1 hwl hR4 hS4 hP hD hS hl
        refine lv_iload_n hx hb dX2_passDay_31 rfl (lv_at hl 0 rfl) ?_
        refine lv_iconst (v := 4) hx hb dX2_passDay_32 (by decide) ?_
        refine lv_icmp_ge (tgt := 61) hx hb dX2_passDay_33 (by decide) (fun c_4 => ?_) (fun c_4 => ?_)
        · skip
          have n_4 : 4 ≤ w := (ni_le (a := 4) (b := w) (rfl : (4 : Int32) = nI 4) hx1 (by decide) (by omega)).mp c_4
          refine lv_iconst (v := 0) hx hb dX2_passDay_61 (by decide) ?_
          refine lv_istore_n (lv' := [(1, .int 0), (0, .ref h)]) hx hb dX2_passDay_62 rfl hl (by decide) rfl (fun ls hl => ?_)
          have lp_63_5 : ∀ (fu : Nat) (w2 : Nat) (x1 : Int32) (u5 : TK) (ls : Array Slot) (H : Heap) (locs : List Loc), 4 - w2 < fu → (x1 = nI w2) → (w2 ≤ 4) → (Rep n (flR (dayA r n) n w2) u5) → (FlR u u5 (dayA r n) n w2) → va_P D vwCl [(h, .inr (1, [.int u5.sz, .int u5.dy, .int u5.rb, .int u5.ins, .int u5.fo, .int u5.fl, .int u5.uw, .int u5.lo, .ref hk, .ref hf, .ref hw, .ref ht])), (hk, .inl (cI, 9, .inl u5.kd)), (hf, .inl (cI, 9, .inl u5.fg)), (hw, .inl (cI, 9, .inl u5.wn)), (ht, .inl (cI, 4, .inl u5.tl))] H → va_D A [(h, .inr (1, [.int u5.sz, .int u5.dy, .int u5.rb, .int u5.ins, .int u5.fo, .int u5.fl, .int u5.uw, .int u5.lo, .ref hk, .ref hf, .ref hw, .ref ht])), (hk, .inl (cI, 9, .inl u5.kd)), (hf, .inl (cI, 9, .inl u5.fg)), (hw, .inl (cI, 9, .inl u5.wn)), (ht, .inl (cI, 4, .inl u5.tl))] → va_S A s.heap H locs → lv_has ls 3 [(1, .int x1), (0, .ref h)] → W p l e ({ frames := 2, cells := 0, slots := 0, locals := 45 }) s m [.ref h].toArray below meth c H locs 0 0 Q (F0 m 63 ls []) := by
            intro fu
            induction fu with
            | zero =>
              intro w2 x1 u5 ls H locs hfu
              exact absurd hfu (Nat.not_lt_zero _)
            | succ fu ih_5 =>
              intro w2 x1 u5 ls H locs hfu hx1 hwl2 hR5 hF5 hP hD hS hl
              refine lv_iload_n hx hb dX2_passDay_63 rfl (lv_at hl 0 rfl) ?_
              refine lv_iconst (v := 4) hx hb dX2_passDay_64 (by decide) ?_
              refine lv_icmp_ge (tgt := 91) hx hb dX2_passDay_65 (by decide) (fun c_6 => ?_) (fun c_6 => ?_)
              · skip
                have n_6 : 4 ≤ w2 := (ni_le (a := 4) (b := w2) (rfl : (4 : Int32) = nI 4) hx1 (by decide) (by omega)).mp c_6
                exact hret 91 _ u5 _ _ dX2_passDay_91 (by have e9 : w2 = 4 := (by omega); subst e9; exact ⟨hR5, hF5⟩) hP hD hS
              have n_6 : ¬ 4 ≤ w2 := fun q => c_6 ((ni_le (a := 4) (b := w2) (rfl : (4 : Int32) = nI 4) hx1 (by decide) (by omega)).mpr q)
              refine lv_aload_n hx hb dX2_passDay_68 rfl (lv_at hl 1 rfl) ?_
              refine lv_aload_n hx hb dX2_passDay_69 rfl (lv_at hl 1 rfl) ?_
              refine lv_iload_n hx hb dX2_passDay_70 rfl (lv_at hl 0 rfl) ?_
              refine xc_Vi (As := [.int x1]) (rest := [.ref h]) ⟨hx, hb, hml, hown, hts⟩ (kX2_nestOf l D cI h hk hf hw ht u5 (flR (dayA r n) n w2) n hR5 x1 w2 hx1 (by omega)) (cwV 1 hts gX2_passDay_X2_nestOf rfl rfl rfl hv_X2_nestOf ⟨Nat.le_of_ble_eq_true rfl, Nat.le_of_ble_eq_true rfl⟩) hK hP [0, 1, 2, 3, 4] rfl 0 rfl rfl rfl hl.1 rfl (Nat.le_of_ble_eq_true rfl) dX2_passDay_71 ⟨Nat.zero_le _, Nat.zero_le _⟩ (fun r_7 hr_7 => ?_)
              refine xc_Vi (As := [.int r_7]) (rest := []) ⟨hx, hb, hml, hown, hts⟩ (kX2_holds l D cI h hk hf hw ht u5 (flR (dayA r n) n w2) n hR5 r_7) (cwV 1 hts gX2_passDay_X2_holds rfl rfl rfl hv_X2_holds ⟨Nat.le_of_ble_eq_true rfl, Nat.le_of_ble_eq_true rfl⟩) hK hP [0, 1, 2, 3, 4] rfl 0 rfl rfl rfl hl.1 rfl (Nat.le_of_ble_eq_true rfl) dX2_passDay_74 ⟨Nat.zero_le _, Nat.zero_le _⟩ (fun r_8 hr_8 => ?_)
              refine lv_if_ne (tgt := 85) hx hb dX2_passDay_77 (by decide) (fun c_9 => ?_) (fun c_9 => ?_)
              · skip
                have hb_9 : hld (flR (dayA r n) n w2) n r_7 = true := bool_t hr_8 c_9
                have hb2_10 := hb_9
                rw [hr_7] at hb2_10
                obtain ⟨x_11, ex_11⟩ : ∃ z : Int32, z = x1 + 1 := ⟨_, rfl⟩
                refine lv_iinc (v := x_11) (lv' := [(1, .int x_11), (0, .ref h)]) hx hb dX2_passDay_85 hl (k := 0) rfl (by rw [ex_11]; rfl) (by decide) rfl (fun ls hl => ?_)
                refine lv_goto (tgt := 63) hx hb dX2_passDay_88 (by decide) ?_
                exact ih_5 (w2 + 1) x_11 u5 _ _ _ (by omega) (ni_add (a := w2) (b := 1) ex_11 hx1 (rfl : (1 : Int32) = nI 1)) (by omega) (by rw [flR, if_pos hb2_10]; exact hR5) (hF5.hold hb2_10) hP hD hS (lv_sub hl [0, 1] rfl)
              have hb_9 : hld (flR (dayA r n) n w2) n r_7 = false := bool_f hr_8 c_9
              have hb2_12 := hb_9
              rw [hr_7] at hb2_12
              refine lv_aload_n hx hb dX2_passDay_80 rfl (lv_at hl 1 rfl) ?_
              refine lv_iload_n hx hb dX2_passDay_81 rfl (lv_at hl 0 rfl) ?_
              refine xw_Vv (As := [.int x1]) (rest := []) (Wn := fun u => [(h, .inr (1, [.int u.sz, .int u.dy, .int u.rb, .int u.ins, .int u.fo, .int u.fl, .int u.uw, .int u.lo, .ref hk, .ref hf, .ref hw, .ref ht])), (hk, .inl (cI, 9, .inl u.kd)), (hf, .inl (cI, 9, .inl u.fg)), (hw, .inl (cI, 9, .inl u.wn)), (ht, .inl (cI, 4, .inl u.tl))]) (Wr := []) ⟨hx, hb, hml, hown, hts⟩ (kX2_bringDown l D cI H.size h hk hf hw ht u5 (flR (dayA r n) n w2) n hR5 x1 w2 hx1 (by omega)) (cwV 1 hts gX2_passDay_X2_bringDown rfl rfl rfl hv_X2_bringDown ⟨Nat.le_of_ble_eq_true rfl, Nat.le_of_ble_eq_true rfl⟩) hK hP hD hS hA [0, 1, 2, 3, 4] [] [0, 1, 2, 3, 4] rfl rfl (by decide) (by decide) (by decide) (by decide) (fun u => rfl) 0 rfl rfl rfl hl.1 rfl (Nat.le_of_ble_eq_true rfl) dX2_passDay_82 ⟨Nat.zero_le _, Nat.zero_le _⟩ (fun u_13 H locs hw_13 hP hD hS => ?_)
              have hR_13 : Rep n (fall (flR (dayA r n) n w2) n (nI w2)) u_13 := by rw [hw_13]; exact (hR5).bring (by omega)
              obtain ⟨x_14, ex_14⟩ : ∃ z : Int32, z = x1 + 1 := ⟨_, rfl⟩
              refine lv_iinc (v := x_14) (lv' := [(1, .int x_14), (0, .ref h)]) hx hb dX2_passDay_85 hl (k := 0) rfl (by rw [ex_14]; rfl) (by decide) rfl (fun ls hl => ?_)
              refine lv_goto (tgt := 63) hx hb dX2_passDay_88 (by decide) ?_
              exact ih_5 (w2 + 1) x_14 u_13 _ _ _ (by omega) (ni_add (a := w2) (b := 1) ex_14 hx1 (rfl : (1 : Int32) = nI 1)) (by omega) (by rw [flR, if_neg (by rw [hb2_12]; simp)]; exact hR_13) (by rw [hw_13]; exact hF5.fallen (by omega) hb2_12) hP hD hS (lv_sub hl [0, 1] rfl)
          exact lp_63_5 ((4 - 0) + 1) 0 0 u4 _ _ _ (by omega) (rfl : (0 : Int32) = nI 0) (by omega) (by have e9 : w = 4 := (by omega); subst e9; exact hR4) (by have e9 : w = 4 := (by omega); subst e9; exact FlR.start hS4 _ _) hP hD hS (lv_sub hl [0, 1] rfl)
        have n_4 : ¬ 4 ≤ w := fun q => c_4 ((ni_le (a := 4) (b := w) (rfl : (4 : Int32) = nI 4) hx1 (by decide) (by omega)).mpr q)
        refine lv_aload_n hx hb dX2_passDay_36 rfl (lv_at hl 1 rfl) ?_
        refine lv_iload_n hx hb dX2_passDay_37 rfl (lv_at hl 0 rfl) ?_
        refine xc_Vi (As := [.int x1]) (rest := []) ⟨hx, hb, hml, hown, hts⟩ (kX2_saidAbout l D cI h hk hf hw ht u4 (tks (wrA (upd r 1 (r 1 + 1)) n) n w) n hR4 x1 w hx1 (by omega)) (cwV 1 hts gX2_passDay_X2_saidAbout rfl rfl rfl hv_X2_saidAbout ⟨Nat.le_of_ble_eq_true rfl, Nat.le_of_ble_eq_true rfl⟩) hK hP [0, 1, 2, 3, 4] rfl 0 rfl rfl rfl hl.1 rfl (Nat.le_of_ble_eq_true rfl) dX2_passDay_38 ⟨Nat.zero_le _, Nat.zero_le _⟩ (fun r_15 hr_15 => ?_)
        refine lv_istore_n (lv' := [(2, .int r_15), (1, .int x1), (0, .ref h)]) hx hb dX2_passDay_41 rfl hl (by decide) rfl (fun ls hl => ?_)
        refine lv_aload_n hx hb dX2_passDay_42 rfl (lv_at hl 2 rfl) ?_
        refine lv_dup hx hb dX2_passDay_43 rfl ?_
        refine va_get (D := D) (ci := 1) (v := .int u4.ins) (C := RX2) (T := TX2) (N := 12) hx hb hts hi_X2 hown hK.1 hP 0 rfl rfl 3 (by decide) hk_21 (fun _ h9 => h9) rfl dX2_passDay_44 ?_
        refine lv_iload_n hx hb dX2_passDay_47 rfl (lv_at hl 0 rfl) ?_
        refine lv_iload_n hx hb dX2_passDay_48 rfl (lv_at hl 0 rfl) ?_
        refine lv_ineg hx hb dX2_passDay_49 ?_
        refine lv_iand hx hb dX2_passDay_50 ?_
        refine lv_ior hx hb dX2_passDay_51 ?_
        refine lv_topi (fun x_16 ex_16 => ?_)
        refine va_put (D := D) (ci := 1) (v := .int x_16) (ty := .int) (C := RX2) (T := TX2) (N := 12) hx hb hts hi_X2 tyX2 tyX2_ok nmX2 hown hK.1 hP hD hS 0 rfl rfl 3 (by decide) hk_21 (fun _ h9 => h9) rfl pd_I rfl rfl (Nat.le_of_ble_eq_true rfl) dX2_passDay_52 (fun H locs hP hD hS => ?_)
        have hP : va_P D vwCl [(h, .inr (1, [.int u4.sz, .int u4.dy, .int u4.rb, .int x_16, .int u4.fo, .int u4.fl, .int u4.uw, .int u4.lo, .ref hk, .ref hf, .ref hw, .ref ht])), (hk, .inl (cI, 9, .inl u4.kd)), (hf, .inl (cI, 9, .inl u4.fg)), (hw, .inl (cI, 9, .inl u4.wn)), (ht, .inl (cI, 4, .inl u4.tl))] H := hP
        have hD : va_D A [(h, .inr (1, [.int u4.sz, .int u4.dy, .int u4.rb, .int x_16, .int u4.fo, .int u4.fl, .int u4.uw, .int u4.lo, .ref hk, .ref hf, .ref hw, .ref ht])), (hk, .inl (cI, 9, .inl u4.kd)), (hf, .inl (cI, 9, .inl u4.fg)), (hw, .inl (cI, 9, .inl u4.wn)), (ht, .inl (cI, 4, .inl u4.tl))] := hD
        obtain ⟨x_17, ex_17⟩ : ∃ z : Int32, z = x1 + 1 := ⟨_, rfl⟩
        refine lv_iinc (v := x_17) (lv' := [(1, .int x_17), (2, .int r_15), (0, .ref h)]) hx hb dX2_passDay_55 hl (k := 1) rfl (by rw [ex_17]; rfl) (by decide) rfl (fun ls hl => ?_)
        refine lv_goto (tgt := 31) hx hb dX2_passDay_58 (by decide) ?_
        exact ih_3 (w + 1) x_17 (u4.sz, u4.dy, u4.rb, x_16, u4.fo, u4.fl, u4.uw, u4.lo, u4.kd, u4.fg, u4.wn, u4.tl) _ _ _ (by omega) (ni_add (a := w) (b := 1) ex_17 hx1 (rfl : (1 : Int32) = nI 1)) (by omega) (by rw [ex_16, hr_15]; exact hR4.take (by omega)) hS4 hP hD hS (lv_sub hl [0, 2] rfl)
    exact lp_31_3 ((4 - 0) + 1) 0 0 u3 _ _ _ (by omega) (rfl : (0 : Int32) = nI 0) (by omega) hR3 hS3 hP hD hS (lv_sub hl [0, 1] rfl)
  have hR1 : Rep n (upd r 1 (r 1 + 1)) (u.sz, x_1, u.rb, u.ins, u.fo, u.fl, u.uw, u.lo, u.kd, u.fg, u.wn, u.tl) := by rw [ex_1]; exact hR.tick
  refine lv_aload_n hx hb dX2_passDay_10 rfl (lv_at hl 0 rfl) ?_
  refine va_get (D := D) (ci := 1) (v := .int x_1) (C := RX2) (T := TX2) (N := 12) hx hb hts hi_X2 hown hK.1 hP 0 rfl rfl 1 (by decide) hk_15 (fun _ h9 => h9) rfl dX2_passDay_11 ?_
  refine lv_iconst (v := 3) hx hb dX2_passDay_14 (by decide) ?_
  refine lv_irem hx hb dX2_passDay_15 (by decide) ?_
  refine lv_if_ne (tgt := 29) hx hb dX2_passDay_16 (by decide) (fun c_18 => ?_) (fun c_18 => ?_)
  · skip
    exact j_29_2 (u.sz, x_1, u.rb, u.ins, u.fo, u.fl, u.uw, u.lo, u.kd, u.fg, u.wn, u.tl) _ _ _ (hR1.wearB c_18) ⟨rfl, rfl, rfl, rfl⟩ hP hD hS (lv_sub hl [0] rfl)
  refine lv_aload_n hx hb dX2_passDay_19 rfl (lv_at hl 0 rfl) ?_
  refine lv_aload_n hx hb dX2_passDay_20 rfl (lv_at hl 0 rfl) ?_
  refine va_get (D := D) (ci := 1) (v := .int u.uw) (C := RX2) (T := TX2) (N := 12) hx hb hts hi_X2 hown hK.1 hP 0 rfl rfl 6 (by decide) hk_30 (fun _ h9 => h9) rfl dX2_passDay_21 ?_
  refine lv_iconst (v := (-1)) hx hb dX2_passDay_24 (by decide) ?_
  refine lv_ixor hx hb dX2_passDay_25 ?_
  refine xw_Vv (As := [.int (u.uw ^^^ (-1))]) (rest := []) (Wn := fun u => [(h, .inr (1, [.int u.sz, .int u.dy, .int u.rb, .int u.ins, .int u.fo, .int u.fl, .int u.uw, .int u.lo, .ref hk, .ref hf, .ref hw, .ref ht])), (hk, .inl (cI, 9, .inl u.kd)), (hf, .inl (cI, 9, .inl u.fg)), (hw, .inl (cI, 9, .inl u.wn)), (ht, .inl (cI, 4, .inl u.tl))]) (Wr := []) ⟨hx, hb, hml, hown, hts⟩ (kX2_wear l D cI H.size h hk hf hw ht (u.sz, x_1, u.rb, u.ins, u.fo, u.fl, u.uw, u.lo, u.kd, u.fg, u.wn, u.tl) (upd r 1 (r 1 + 1)) n hR1 (u.uw ^^^ (-1))) (cwV 1 hts gX2_passDay_X2_wear rfl rfl rfl hv_X2_wear ⟨Nat.le_of_ble_eq_true rfl, Nat.le_of_ble_eq_true rfl⟩) hK hP hD hS hA [0, 1, 2, 3, 4] [] [0, 1, 2, 3, 4] rfl rfl (by decide) (by decide) (by decide) (by decide) (fun u => rfl) 0 rfl rfl rfl hl.1 rfl (Nat.le_of_ble_eq_true rfl) dX2_passDay_26 ⟨Nat.zero_le _, Nat.zero_le _⟩ (fun u_19 H locs hw_19 hP hD hS => ?_)
  exact j_29_2 u_19 _ _ _ (by rw [hw_19]; exact hR1.wearA c_18) (by rw [hw_19]; exact ⟨rfl, rfl, rfl, rfl⟩) hP hD hS (lv_sub hl [0] rfl)

set_option maxHeartbeats 4000000 in
set_option maxRecDepth 100000 in
theorem kX2_passDays (l : Launch) (D : va_G) (cI : ClassId) (sz : Nat) (h hk hf hw ht : Nat) (u : TK) (r : RR) (n : Nat) (hR : Rep n r u) (p0 : Int32) (t0 : Nat) (hp0 : p0 = nI t0) (ht0 : t0 ≤ 1000000) : Met l yX2_passDays wsX2_passDays ({ frames := 3, cells := 0, slots := 0, locals := 67 }) (PRW D cI [.ref h, .int p0] [(h, .inr (1, [.int u.sz, .int u.dy, .int u.rb, .int u.ins, .int u.fo, .int u.fl, .int u.uw, .int u.lo, .ref hk, .ref hf, .ref hw, .ref ht])), (hk, .inl (cI, 9, .inl u.kd)), (hf, .inl (cI, 9, .inl u.fg)), (hw, .inl (cI, 9, .inl u.wn)), (ht, .inl (cI, 4, .inl u.tl))] sz) (va_Qv (S := TK) (fun u2 => Rep n (dsR r n t0) u2 ∧ FsR u u2 r n t0) (BRW D [(h, .inr (1, [.int u.sz, .int u.dy, .int u.rb, .int u.ins, .int u.fo, .int u.fl, .int u.uw, .int u.lo, .ref hk, .ref hf, .ref hw, .ref ht])), (hk, .inl (cI, 9, .inl u.kd)), (hf, .inl (cI, 9, .inl u.fg)), (hw, .inl (cI, 9, .inl u.wn)), (ht, .inl (cI, 4, .inl u.tl))] sz (fun u => [(h, .inr (1, [.int u.sz, .int u.dy, .int u.rb, .int u.ins, .int u.fo, .int u.fl, .int u.uw, .int u.lo, .ref hk, .ref hf, .ref hw, .ref ht])), (hk, .inl (cI, 9, .inl u.kd)), (hf, .inl (cI, 9, .inl u.fg)), (hw, .inl (cI, 9, .inl u.wn)), (ht, .inl (cI, 4, .inl u.tl))])) (va_A [(h, .inr (1, [.int u.sz, .int u.dy, .int u.rb, .int u.ins, .int u.fo, .int u.fl, .int u.uw, .int u.lo, .ref hk, .ref hf, .ref hw, .ref ht])), (hk, .inl (cI, 9, .inl u.kd)), (hf, .inl (cI, 9, .inl u.fg)), (hw, .inl (cI, 9, .inl u.wn)), (ht, .inl (cI, 4, .inl u.tl))] sz)) 0 0 (va_A [(h, .inr (1, [.int u.sz, .int u.dy, .int u.rb, .int u.ins, .int u.fo, .int u.fl, .int u.uw, .int u.lo, .ref hk, .ref hf, .ref hw, .ref ht])), (hk, .inl (cI, 9, .inl u.kd)), (hf, .inl (cI, 9, .inl u.fg)), (hw, .inl (cI, 9, .inl u.wn)), (ht, .inl (cI, 4, .inl u.tl))] sz) := by
  refine st_rwv (cc := cX2_passDays) (maxL := 3) (by decide) rfl (Nat.le_of_ble_eq_true rfl) ?_
  intro p e s m below meth c Q ls A hx hb hml hts hown hP hK hD hA hS hl hret
  replace hown : s.vm.findClass RX2 = some m.cls := hown
  replace hl : lv_has ls 3 [(0, .ref h), (1, .int p0)] := hl
  obtain ⟨H, hH⟩ : ∃ z, z = s.heap := ⟨_, rfl⟩
  obtain ⟨locs, hlo⟩ : ∃ z : List Loc, z = [] := ⟨_, rfl⟩
  replace hP : va_P D vwCl [(h, .inr (1, [.int u.sz, .int u.dy, .int u.rb, .int u.ins, .int u.fo, .int u.fl, .int u.uw, .int u.lo, .ref hk, .ref hf, .ref hw, .ref ht])), (hk, .inl (cI, 9, .inl u.kd)), (hf, .inl (cI, 9, .inl u.fg)), (hw, .inl (cI, 9, .inl u.wn)), (ht, .inl (cI, 4, .inl u.tl))] H := by rw [hH]; exact hP
  replace hS : va_S A s.heap H locs := by rw [hH, hlo]; exact hS
  show W p l e ({ frames := 3, cells := 0, slots := 0, locals := 67 }) s m [.ref h, .int p0].toArray below meth c s.heap [] 0 0 Q (F0 m 0 ls [])
  rw [← hlo]
  suffices hgo : W p l e ({ frames := 3, cells := 0, slots := 0, locals := 67 }) s m [.ref h, .int p0].toArray below meth c H locs 0 0 Q (F0 m 0 ls []) by rw [hH] at hgo; exact hgo
  clear hH hlo
  have hn9 := hR.le
  refine lv_iconst (v := 0) hx hb dX2_passDays_0 (by decide) ?_
  refine lv_istore_n (lv' := [(2, .int 0), (0, .ref h), (1, .int p0)]) hx hb dX2_passDays_1 rfl hl (by decide) rfl (fun ls hl => ?_)
  have lp_2_1 : ∀ (fu : Nat) (i : Nat) (x2 : Int32) (u3 : TK) (ls : Array Slot) (H : Heap) (locs : List Loc), t0 - i < fu → (x2 = nI i) → (i ≤ t0) → (Rep n (dsR r n i) u3) → (FsR u u3 r n i) → va_P D vwCl [(h, .inr (1, [.int u3.sz, .int u3.dy, .int u3.rb, .int u3.ins, .int u3.fo, .int u3.fl, .int u3.uw, .int u3.lo, .ref hk, .ref hf, .ref hw, .ref ht])), (hk, .inl (cI, 9, .inl u3.kd)), (hf, .inl (cI, 9, .inl u3.fg)), (hw, .inl (cI, 9, .inl u3.wn)), (ht, .inl (cI, 4, .inl u3.tl))] H → va_D A [(h, .inr (1, [.int u3.sz, .int u3.dy, .int u3.rb, .int u3.ins, .int u3.fo, .int u3.fl, .int u3.uw, .int u3.lo, .ref hk, .ref hf, .ref hw, .ref ht])), (hk, .inl (cI, 9, .inl u3.kd)), (hf, .inl (cI, 9, .inl u3.fg)), (hw, .inl (cI, 9, .inl u3.wn)), (ht, .inl (cI, 4, .inl u3.tl))] → va_S A s.heap H locs → lv_has ls 3 [(2, .int x2), (0, .ref h), (1, .int p0)] → W p l e ({ frames := 3, cells := 0, slots := 0, locals := 67 }) s m [.ref h, .int p0].toArray below meth c H locs 0 0 Q (F0 m 2 ls []) := by
    intro fu
    induction fu with
    | zero =>
      intro i x2 u3 ls H locs hfu
      exact absurd hfu (Nat.not_lt_zero _)
    | succ fu ih_1 =>
      intro i x2 u3 ls H locs hfu hx2 hi hR3 hF3 hP hD hS hl
      refine lv_iload_n hx hb dX2_passDays_2 rfl (lv_at hl 0 rfl) ?_
      refine lv_iload_n hx hb dX2_passDays_3 rfl (lv_at hl 2 rfl) ?_
      refine lv_icmp_ge (tgt := 17) hx hb dX2_passDays_4 (by decide) (fun c_2 => ?_) (fun c_2 => ?_)
      · skip
        have n_2 : t0 ≤ i := (ni_le (a := t0) (b := i) hp0 hx2 (by omega) (by omega)).mp c_2
        exact hret 17 _ u3 _ _ dX2_passDays_17 (by have e9 : i = t0 := (by omega); subst e9; exact ⟨hR3, hF3⟩) hP hD hS
      have n_2 : ¬ t0 ≤ i := fun q => c_2 ((ni_le (a := t0) (b := i) hp0 hx2 (by omega) (by omega)).mpr q)
      refine lv_aload_n hx hb dX2_passDays_7 rfl (lv_at hl 1 rfl) ?_
      refine xw_Vv (As := []) (rest := []) (Wn := fun u => [(h, .inr (1, [.int u.sz, .int u.dy, .int u.rb, .int u.ins, .int u.fo, .int u.fl, .int u.uw, .int u.lo, .ref hk, .ref hf, .ref hw, .ref ht])), (hk, .inl (cI, 9, .inl u.kd)), (hf, .inl (cI, 9, .inl u.fg)), (hw, .inl (cI, 9, .inl u.wn)), (ht, .inl (cI, 4, .inl u.tl))]) (Wr := []) ⟨hx, hb, hml, hown, hts⟩ (kX2_passDay l D cI H.size h hk hf hw ht u3 (dsR r n i) n hR3) (cwV 0 hts gX2_passDays_X2_passDay rfl rfl rfl hv_X2_passDay ⟨Nat.le_of_ble_eq_true rfl, Nat.le_of_ble_eq_true rfl⟩) hK hP hD hS hA [0, 1, 2, 3, 4] [] [0, 1, 2, 3, 4] rfl rfl (by decide) (by decide) (by decide) (by decide) (fun u => rfl) 0 rfl rfl rfl hl.1 rfl (Nat.le_of_ble_eq_true rfl) dX2_passDays_8 ⟨Nat.zero_le _, Nat.zero_le _⟩ (fun u_3 H locs hw_3 hP hD hS => ?_)
      obtain ⟨hR_3, hF_3⟩ := hw_3
      obtain ⟨x_4, ex_4⟩ : ∃ z : Int32, z = x2 + 1 := ⟨_, rfl⟩
      refine lv_iinc (v := x_4) (lv' := [(2, .int x_4), (0, .ref h), (1, .int p0)]) hx hb dX2_passDays_11 hl (k := 0) rfl (by rw [ex_4]; rfl) (by decide) rfl (fun ls hl => ?_)
      refine lv_goto (tgt := 2) hx hb dX2_passDays_14 (by decide) ?_
      exact ih_1 (i + 1) x_4 u_3 _ _ _ (by omega) (ni_add (a := i) (b := 1) ex_4 hx2 (rfl : (1 : Int32) = nI 1)) (by omega) hR_3 (hF3.day hF_3) hP hD hS (lv_sub hl [0, 1, 2] rfl)
  exact lp_2_1 ((t0 - 0) + 1) 0 0 u _ _ _ (by omega) (rfl : (0 : Int32) = nI 0) (by omega) hR (FsR.start u r n) hP hD hS (lv_sub hl [0, 1, 2] rfl)


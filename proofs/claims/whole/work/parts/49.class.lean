theorem hs_X0_placeOfWrongLetter : yX0_placeOfWrongLetter.cls ≠ "java/lang/invoke/MethodHandle" ∧ yX0_placeOfWrongLetter.cls ≠ "java/lang/invoke/VarHandle" ∧ (parseMethodDescriptor yX0_placeOfWrongLetter.desc).map (fun d => d.parameters.length) = some 0 := by decide +kernel
theorem hv_X0_placeOfWrongLetter : yX0_placeOfWrongLetter.cls = RX0 ∧ yX0_placeOfWrongLetter.cls ≠ "java/lang/invoke/MethodHandle" ∧ yX0_placeOfWrongLetter.cls ≠ "java/lang/invoke/VarHandle" ∧ (parseMethodDescriptor yX0_placeOfWrongLetter.desc).map (fun d => d.parameters.length) = some 0 := ⟨rfl, hs_X0_placeOfWrongLetter⟩
set_option maxHeartbeats 4000000 in
set_option maxRecDepth 100000 in
theorem kX0_placeOfWrongLetter (l : Launch) (D : va_G) (cI : ClassId) (y16 y17 L : Nat) (lt : RR) (hL : L ≤ 96) : Met l yX0_placeOfWrongLetter wsX0_placeOfWrongLetter ({ frames := 2, cells := 0, slots := 0, locals := 42 }) (PRO D cI [.ref y16] [(y16, .inr (0, [.ref y17, .int (nI L)])), (y17, .inl (cI, 96, .inl lt))]) (vp_Si (fun v => ((rdA (hrF lt L) L 98 0 0).1 = -9 ∧ v = -9) ∨ (∃ q, q ≤ 96 ∧ v = nI q ∧ (rdA (hrF lt L) L 98 0 0).1 = -1000 - nI q))) 0 0 (fun _ => False) := by
  refine st_roi (cc := cX0_placeOfWrongLetter) (maxL := 3) (rt := .int) (by decide) rfl (Nat.le_of_ble_eq_true rfl) (fun _ _ => rfl) ?_
  intro p e s m below meth c Q ls hx hb hml hts hown hP hK hl hret
  replace hown : s.vm.findClass RX0 = some m.cls := hown
  replace hl : lv_has ls 3 [(0, .ref y16)] := hl
  have hi_X0 : ∀ w ∈ wsX00, w ∈ wsX0_placeOfWrongLetter := fun w h => List.mem_cons_of_mem _ (List.mem_append_right _ (h))
  have hk_15 := hts (.fieldLink RX0 15 "NestsOfTalk$CloseText" "length" "I") (List.mem_of_getElem? (i := 1) rfl)
  refine lv_iconst (v := 0) hx hb dX0_placeOfWrongLetter_0 (by decide) ?_
  refine lv_istore_n (lv' := [(1, .int 0), (0, .ref y16)]) hx hb dX0_placeOfWrongLetter_1 rfl hl (by decide) rfl (fun ls hl => ?_)
  refine lv_iconst (v := 0) hx hb dX0_placeOfWrongLetter_2 (by decide) ?_
  refine lv_istore_n (lv' := [(2, .int 0), (1, .int 0), (0, .ref y16)]) hx hb dX0_placeOfWrongLetter_3 rfl hl (by decide) rfl (fun ls hl => ?_)
  have lp_4_1 : ∀ (fu : Nat) (s9 : Nat) (k9 : Nat) (m1 : Nat) (fu9 : Nat) (x2 : Int32) (x1 : Int32) (ls : Array Slot), L - (s9 + k9) < fu → (x2 = nI (s9 + k9)) → (x1 = nI s9) → (s9 + k9 ≤ L) → (98 ≤ s9 + fu9) → (Pfx (hrF lt L) s9 k9) → (PwR (hrF lt L) L fu9 s9 m1 (rdA (hrF lt L) L 98 0 0)) → lv_has ls 3 [(2, .int x2), (1, .int x1), (0, .ref y16)] → W p l e ({ frames := 2, cells := 0, slots := 0, locals := 42 }) s m [.ref y16].toArray below meth c s.heap [] 0 0 Q (F0 m 4 ls []) := by
    intro fu
    induction fu with
    | zero =>
      intro s9 k9 m1 fu9 x2 x1 ls hfu
      exact absurd hfu (Nat.not_lt_zero _)
    | succ fu ih_1 =>
      intro s9 k9 m1 fu9 x2 x1 ls hfu hx2 hx1 hle hfu9 hP9 hR9 hl
      refine lv_iload_n hx hb dX0_placeOfWrongLetter_4 rfl (lv_at hl 0 rfl) ?_
      refine lv_aload_n hx hb dX0_placeOfWrongLetter_5 rfl (lv_at hl 2 rfl) ?_
      refine va_get (D := D) (ci := 0) (v := .int (nI L)) (C := RX0) (T := TX0) (N := 2) hx hb hts hi_X0 hown hK.1 hP 0 rfl rfl 1 (by decide) hk_15 (fun _ h9 => h9) rfl dX0_placeOfWrongLetter_6 ?_
      refine lv_icmp_ge (tgt := 53) hx hb dX0_placeOfWrongLetter_9 (by decide) (fun c_2 => ?_) (fun c_2 => ?_)
      · skip
        have n_2 : L ≤ (s9 + k9) := (ni_le (a := L) (b := (s9 + k9)) rfl hx2 (by omega) (by omega)).mp c_2
        refine lv_aload_n hx hb dX0_placeOfWrongLetter_53 rfl (lv_at hl 2 rfl) ?_
        refine va_get (D := D) (ci := 0) (v := .int (nI L)) (C := RX0) (T := TX0) (N := 2) hx hb hts hi_X0 hown hK.1 hP 0 rfl rfl 1 (by decide) hk_15 (fun _ h9 => h9) rfl dX0_placeOfWrongLetter_54 ?_
        refine lv_if_eq (tgt := 68) hx hb dX0_placeOfWrongLetter_57 (by decide) (fun c_3 => ?_) (fun c_3 => ?_)
        · skip
          have n_3 : L = 0 := (ni_eq (a := L) (b := 0) rfl (rfl : (0 : Int32) = nI 0) (by omega) (by decide)).mp c_3
          refine lv_aload_n hx hb dX0_placeOfWrongLetter_68 rfl (lv_at hl 2 rfl) ?_
          refine va_get (D := D) (ci := 0) (v := .int (nI L)) (C := RX0) (T := TX0) (N := 2) hx hb hts hi_X0 hown hK.1 hP 0 rfl rfl 1 (by decide) hk_15 (fun _ h9 => h9) rfl dX0_placeOfWrongLetter_69 ?_
          refine lv_goto (tgt := 77) hx hb dX0_placeOfWrongLetter_72 (by decide) ?_
          exact hret 77 _ (nI L) dX0_placeOfWrongLetter_77 (pw_stop hR9 hP9 (by omega) (by omega) (by omega) (by omega))
        have n_3 : ¬ L = 0 := fun q => c_3 ((ni_eq (a := L) (b := 0) rfl (rfl : (0 : Int32) = nI 0) (by omega) (by decide)).mpr q)
        refine lv_iload_n hx hb dX0_placeOfWrongLetter_60 rfl (lv_at hl 1 rfl) ?_
        refine lv_aload_n hx hb dX0_placeOfWrongLetter_61 rfl (lv_at hl 2 rfl) ?_
        refine va_get (D := D) (ci := 0) (v := .int (nI L)) (C := RX0) (T := TX0) (N := 2) hx hb hts hi_X0 hown hK.1 hP 0 rfl rfl 1 (by decide) hk_15 (fun _ h9 => h9) rfl dX0_placeOfWrongLetter_62 ?_
        refine lv_icmp_ge (tgt := 75) hx hb dX0_placeOfWrongLetter_65 (by decide) (fun c_4 => ?_) (fun c_4 => ?_)
        · skip
          have n_4 : L ≤ s9 := (ni_le (a := L) (b := s9) rfl hx1 (by omega) (by omega)).mp c_4
          refine lv_bipush (v := (-9)) hx hb dX0_placeOfWrongLetter_75 (by decide) ?_
          exact hret 77 _ (-9) dX0_placeOfWrongLetter_77 (Or.inl ⟨pw_fin hR9 (by omega) (by omega), rfl⟩)
        have n_4 : ¬ L ≤ s9 := fun q => c_4 ((ni_le (a := L) (b := s9) rfl hx1 (by omega) (by omega)).mpr q)
        refine lv_aload_n hx hb dX0_placeOfWrongLetter_68 rfl (lv_at hl 2 rfl) ?_
        refine va_get (D := D) (ci := 0) (v := .int (nI L)) (C := RX0) (T := TX0) (N := 2) hx hb hts hi_X0 hown hK.1 hP 0 rfl rfl 1 (by decide) hk_15 (fun _ h9 => h9) rfl dX0_placeOfWrongLetter_69 ?_
        refine lv_goto (tgt := 77) hx hb dX0_placeOfWrongLetter_72 (by decide) ?_
        exact hret 77 _ (nI L) dX0_placeOfWrongLetter_77 (pw_stop hR9 hP9 (by omega) (by omega) (by omega) (by omega))
      have n_2 : ¬ L ≤ (s9 + k9) := fun q => c_2 ((ni_le (a := L) (b := (s9 + k9)) rfl hx2 (by omega) (by omega)).mpr q)
      refine lv_aload_n hx hb dX0_placeOfWrongLetter_12 rfl (lv_at hl 2 rfl) ?_
      refine lv_iload_n hx hb dX0_placeOfWrongLetter_13 rfl (lv_at hl 0 rfl) ?_
      refine xc_Vi (As := [.int x2]) (rest := []) ⟨hx, hb, hml, hown, hts⟩ (kX0_at l D cI y16 y17 L lt x2 (s9 + k9) hx2  (by omega) (by omega)) (cwV 1 hts gX0_placeOfWrongLetter_X0_at rfl rfl rfl hv_X0_at ⟨Nat.le_of_ble_eq_true rfl, Nat.le_of_ble_eq_true rfl⟩) hK hP [0, 1] rfl 0 rfl rfl rfl hl.1 rfl (Nat.le_of_ble_eq_true rfl) dX0_placeOfWrongLetter_14 ⟨Nat.zero_le _, Nat.zero_le _⟩ (fun r_5 hr_5 => ?_)
      refine lv_aload_n hx hb dX0_placeOfWrongLetter_17 rfl (lv_at hl 2 rfl) ?_
      refine lv_iload_n hx hb dX0_placeOfWrongLetter_18 rfl (lv_at hl 1 rfl) ?_
      refine xc_Vi (As := [.int x1]) (rest := [.int r_5]) ⟨hx, hb, hml, hown, hts⟩ (kX0_at l D cI y16 y17 L lt x1 s9 hx1  (by omega) (by omega)) (cwV 1 hts gX0_placeOfWrongLetter_X0_at rfl rfl rfl hv_X0_at ⟨Nat.le_of_ble_eq_true rfl, Nat.le_of_ble_eq_true rfl⟩) hK hP [0, 1] rfl 0 rfl rfl rfl hl.1 rfl (Nat.le_of_ble_eq_true rfl) dX0_placeOfWrongLetter_19 ⟨Nat.zero_le _, Nat.zero_le _⟩ (fun r_6 hr_6 => ?_)
      refine lv_iload_n hx hb dX0_placeOfWrongLetter_22 rfl (lv_at hl 0 rfl) ?_
      refine lv_iload_n hx hb dX0_placeOfWrongLetter_23 rfl (lv_at hl 1 rfl) ?_
      refine lv_isub hx hb dX0_placeOfWrongLetter_24 ?_
      refine xc_Si (As := [.int r_5, .int r_6, .int (x2 - x1)]) (rest := []) ⟨hx, hb, hml, hown, hts⟩ (kX0_fits l D cI r_5 r_6 (x2 - x1) k9 ((ni_sub (a := s9 + k9) (b := s9) rfl hx2 hx1 (by omega)).trans (by rw [Nat.add_sub_cancel_left])) (by omega)) (va_cwS 3 hts gX0_placeOfWrongLetter_X0_fits rfl rfl rfl hs_X0_fits ⟨Nat.le_of_ble_eq_true rfl, Nat.le_of_ble_eq_true rfl⟩) hK hP [] rfl rfl hl.1 rfl (Nat.le_of_ble_eq_true rfl) dX0_placeOfWrongLetter_25 ⟨Nat.zero_le _, Nat.zero_le _⟩ (fun r_7 hr_7 => ?_)
      refine lv_if_ne (tgt := 33) hx hb dX0_placeOfWrongLetter_28 (by decide) (fun c_8 => ?_) (fun c_8 => ?_)
      · skip
        have hb_8 : ftB r_5 r_6 k9 = true := bool_t hr_7 c_8
        have hf9 : ftB ((hrF lt L) (s9 + k9)) ((hrF lt L) s9) k9 = true := by have z := hb_8; (try rw [hr_5] at z); (try rw [hr_6] at z); rw [at_hr (by omega), at_hr (by omega)] at z; exact z
        refine lv_aload_n hx hb dX0_placeOfWrongLetter_33 rfl (lv_at hl 2 rfl) ?_
        refine lv_iload_n hx hb dX0_placeOfWrongLetter_34 rfl (lv_at hl 0 rfl) ?_
        refine xc_Vi (As := [.int x2]) (rest := []) ⟨hx, hb, hml, hown, hts⟩ (kX0_at l D cI y16 y17 L lt x2 (s9 + k9) hx2  (by omega) (by omega)) (cwV 1 hts gX0_placeOfWrongLetter_X0_at rfl rfl rfl hv_X0_at ⟨Nat.le_of_ble_eq_true rfl, Nat.le_of_ble_eq_true rfl⟩) hK hP [0, 1] rfl 0 rfl rfl rfl hl.1 rfl (Nat.le_of_ble_eq_true rfl) dX0_placeOfWrongLetter_35 ⟨Nat.zero_le _, Nat.zero_le _⟩ (fun r_9 hr_9 => ?_)
        refine lv_bipush (v := 59) hx hb dX0_placeOfWrongLetter_38 (by decide) ?_
        refine lv_icmp_ne (tgt := 47) hx hb dX0_placeOfWrongLetter_40 (by decide) (fun c_10 => ?_) (fun c_10 => ?_)
        · skip
          have he9 : ¬ (hrF lt L) (s9 + k9) = 59 := by have z := c_10; rw [hr_9, at_hr (by omega)] at z; exact z
          obtain ⟨x_11, ex_11⟩ : ∃ z : Int32, z = x2 + 1 := ⟨_, rfl⟩
          refine lv_iinc (v := x_11) (lv' := [(2, .int x_11), (1, .int x1), (0, .ref y16)]) hx hb dX0_placeOfWrongLetter_47 hl (k := 0) rfl (by rw [ex_11]; rfl) (by decide) rfl (fun ls hl => ?_)
          refine lv_goto (tgt := 4) hx hb dX0_placeOfWrongLetter_50 (by decide) ?_
          exact ih_1 s9 (k9 + 1) m1 fu9 x_11 x1 _ (by omega) (ni_add (a := (s9 + k9)) (b := 1) ex_11 hx2 (rfl : (1 : Int32) = nI 1)) hx1 (by omega) (by omega) (pfx_next hP9 hf9 he9) hR9 (lv_sub hl [0, 1, 2] rfl)
        have he9 : (hrF lt L) (s9 + k9) = 59 := by have z := c_10; rw [hr_9, at_hr (by omega)] at z; exact z
        have hrs := pfx_end hP9 hf9 he9
        refine lv_iload_n hx hb dX0_placeOfWrongLetter_43 rfl (lv_at hl 0 rfl) ?_
        refine lv_iconst (v := 1) hx hb dX0_placeOfWrongLetter_44 (by decide) ?_
        refine lv_iadd hx hb dX0_placeOfWrongLetter_45 ?_
        refine lv_topi (fun x_12 ex_12 => ?_)
        refine lv_istore_n (lv' := [(1, .int x_12), (2, .int x2), (0, .ref y16)]) hx hb dX0_placeOfWrongLetter_46 rfl hl (by decide) rfl (fun ls hl => ?_)
        obtain ⟨x_13, ex_13⟩ : ∃ z : Int32, z = x2 + 1 := ⟨_, rfl⟩
        refine lv_iinc (v := x_13) (lv' := [(2, .int x_13), (1, .int x_12), (0, .ref y16)]) hx hb dX0_placeOfWrongLetter_47 hl (k := 1) rfl (by rw [ex_13]; rfl) (by decide) rfl (fun ls hl => ?_)
        refine lv_goto (tgt := 4) hx hb dX0_placeOfWrongLetter_50 (by decide) ?_
        exact ih_1 (s9 + k9 + 1) 0 (m1 + 1) (fu9 - 1) x_13 x_12 _ (by omega) (ni_add (a := (s9 + k9)) (b := 1) ex_13 hx2 (rfl : (1 : Int32) = nI 1)) (ex_12.trans (ni_add (a := (s9 + k9)) (b := 1) rfl hx2 (rfl : (1 : Int32) = nI 1))) (by omega) (by omega) (Or.inl rfl) (pw_step hR9 hrs (by omega) (by omega) (by omega)) (lv_sub hl [0, 1, 2] rfl)
      have hb_8 : ftB r_5 r_6 k9 = false := bool_f hr_7 c_8
      have hf9 : ftB ((hrF lt L) (s9 + k9)) ((hrF lt L) s9) k9 = false := by have z := hb_8; (try rw [hr_5] at z); (try rw [hr_6] at z); rw [at_hr (by omega), at_hr (by omega)] at z; exact z
      refine lv_iload_n hx hb dX0_placeOfWrongLetter_31 rfl (lv_at hl 0 rfl) ?_
      exact hret 32 _ x2 dX0_placeOfWrongLetter_32 (Or.inr ⟨s9 + k9, by omega, hx2, pw_bad hR9 (pfx_bad hP9 hf9) (by omega) (by omega) (by omega)⟩)
  exact lp_4_1 ((L - (0 + 0)) + 1) 0 0 0 98 0 0 _ (by omega) (rfl : (0 : Int32) = nI 0) (rfl : (0 : Int32) = nI 0) (by omega) (by omega) (Or.inl rfl) (Or.inl ⟨rfl, Or.inr rfl⟩) (lv_sub hl [0, 1, 2] rfl)


theorem law_end {L k : Nat} {x : Int32} (hL : L ≤ 2560) (hk : k ≤ L + 5) (ex : x = nI k) (h : ¬ (Int32.ofNat L - 5 < x)) : k + 5 ≤ L := by
  subst ex
  rw [Int32.lt_iff_toInt_lt, show Int32.ofNat L - 5 = nI L - nI 5 from rfl, pk_sub_toInt (by omega) (by omega), nI_toInt (by omega)] at h
  omega
theorem law_in {L k j : Nat} {x z w : Int32} (hL : L ≤ 2560) (ex : x = nI k) (ez : z = nI j) (ew : w = x + z) (h : k + j < L) : vp_in w L := by
  subst ew; subst ex; subst ez
  rw [nI_add]
  exact vp_in_nI h (by omega)
set_option maxHeartbeats 4000000 in
set_option maxRecDepth 100000 in
theorem law_loop {p : Program} {l : Launch} {e : Env} {s : State} {m : MethodId} {below : List Frame} {meth : Method} {c : Code} {b L : Nat} {xs : Nat → Int32} {D : va_G} {cI : ClassId} {A : Nat → Prop} {y a : Nat → Nat} {Q : State → Prop} (h : LX p s m c b L xs D cI A) (hL : L ≤ 2560)
    (fin : ∀ (H : Heap) (locs : List Loc) (ls : Array Slot), va_S A s.heap H locs → W p l e room_1 s m #[Value.ref b] below meth c H locs 30 594 Q (F0 m 1193 ls [.int 1])) :
    ∀ (fu k : Nat) (x : Int32), x = nI k → k ≤ L + 5 → L + 6 - k < fu → LG2 p l e s m below meth c b D cI A y a x Q 18 := by
  intro fu
  induction fu with
  | zero => intro k x _ _ hfu; exact absurd hfu (Nat.not_lt_zero _)
  | succ fu ih =>
    intro k x ex hk hfu
    intro gg tn tm tp ga mm H locs ls hG hC hP hD hS hl
    obtain ⟨hx, hb, hml, hown, hts, hX, hbl, hbA, hA, hK⟩ := id h
    refine lv_iload_n hx hb dL_law_18 rfl (lv_at hl 0 rfl) ?_
    refine lv_aload_n hx hb dL_law_19 rfl (lv_at hl 3 rfl) ?_
    refine va_slen hx hb hX hbl hbA hS dL_law_20 ?_
    refine lv_iconst (v := 5) hx hb dL_law_21 (by decide) ?_
    refine lv_isub hx hb dL_law_22 ?_
    refine lv_icmp_gt (tgt := 1192) hx hb dL_law_23 (by decide) (fun c1 => ?_) (fun c1 => ?_)
    · refine lv_iconst (v := 1) hx hb dL_law_1192 (by decide) ?_
      exact fin _ _ _ hS
    · have hlt : k + 5 ≤ L := law_end hL hk ex c1
      have hv0 : vp_in x L := by rw [ex]; exact vp_in_nI (by omega) (by omega)
      have hv1 : vp_in (x + 1) L := law_in hL ex (j := 1) (z := 1) rfl rfl (by omega)
      have hv2 : vp_in (x + 2) L := law_in hL ex (j := 2) (z := 2) rfl rfl (by omega)
      have hv3 : vp_in (x + 3) L := law_in hL ex (j := 3) (z := 3) rfl rfl (by omega)
      have hv4 : vp_in (x + 4) L := law_in hL ex (j := 4) (z := 4) rfl rfl (by omega)
      have cont : LG2 p l e s m below meth c b D cI A y a x Q 1186 := by
        intro gg tn tm tp ga mm H locs ls hG hC hP hD hS hl
        obtain ⟨x2, e2⟩ : ∃ z : Int32, z = x + 5 := ⟨_, rfl⟩
        refine lv_iinc (v := x2) (lv' := [(3, .int x2), (2, .ref (a 0)), (1, .ref (y 0)), (0, .ref b)]) hx hb dL_law_1186 hl (k := 0) rfl (by rw [e2]; rfl) (by decide) rfl (fun ls hl => ?_)
        refine lv_goto (tgt := 18) hx hb dL_law_1189 (by decide) ?_
        exact ih (k + 5) x2 (by rw [e2, ex]; exact nI_add k 5) (by omega) (by omega) gg tn tm tp ga mm H locs ls hG hC hP hD hS hl
      clear ih fin
      refine lv_aload_n hx hb dL_law_26 rfl (lv_at hl 3 rfl) ?_
      refine lv_iload_n hx hb dL_law_27 rfl (lv_at hl 0 rfl) ?_
      refine va_sld hx hb hX hbl hbA hS hv0 dL_law_28 ?_
      refine lv_bipush (v := 63) hx hb dL_law_29 (by decide) ?_
      refine lv_iand hx hb dL_law_31 ?_
      refine lv_topi (fun w ew => ?_)
      clear ew
      by_cases q0 : w = 0
      · refine xs_tin (k := 0) (off := 168) (tgt := 200) hx hb dL_law_32 q0 (by decide) (by decide) (by decide) (by decide) (by decide) ?_
        exact lc_letter h hv1 cont gg tn tm tp ga mm H locs ls hG hC hP hD hS hl
      by_cases q1 : w = 1
      · refine xs_tin (k := 1) (off := 191) (tgt := 223) hx hb dL_law_32 q1 (by decide) (by decide) (by decide) (by decide) (by decide) ?_
        exact lc_close h cont gg tn tm tp ga mm H locs ls hG hC hP hD hS hl
      by_cases q2 : w = 2
      · refine xs_tin (k := 2) (off := 204) (tgt := 236) hx hb dL_law_32 q2 (by decide) (by decide) (by decide) (by decide) (by decide) ?_
        exact lc_saying h hv1 hv2 cont gg tn tm tp ga mm H locs ls hG hC hP hD hS hl
      by_cases q3 : w = 3
      · refine xs_tin (k := 3) (off := 237) (tgt := 269) hx hb dL_law_32 q3 (by decide) (by decide) (by decide) (by decide) (by decide) ?_
        exact lc_nest h hv1 hv2 cont gg tn tm tp ga mm H locs ls hG hC hP hD hS hl
      by_cases q4 : w = 4
      · refine xs_tin (k := 4) (off := 270) (tgt := 302) hx hb dL_law_32 q4 (by decide) (by decide) (by decide) (by decide) (by decide) ?_
        exact lc_takes h hv1 cont gg tn tm tp ga mm H locs ls hG hC hP hD hS hl
      by_cases q5 : w = 5
      · refine xs_tin (k := 5) (off := 293) (tgt := 325) hx hb dL_law_32 q5 (by decide) (by decide) (by decide) (by decide) (by decide) ?_
        exact lc_wears h hv1 hv2 cont gg tn tm tp ga mm H locs ls hG hC hP hD hS hl
      by_cases q6 : w = 6
      · refine xs_tin (k := 6) (off := 326) (tgt := 358) hx hb dL_law_32 q6 (by decide) (by decide) (by decide) (by decide) (by decide) ?_
        exact lc_concerns h hv1 hv2 cont gg tn tm tp ga mm H locs ls hG hC hP hD hS hl
      by_cases q7 : w = 7
      · refine xs_tin (k := 7) (off := 359) (tgt := 391) hx hb dL_law_32 q7 (by decide) (by decide) (by decide) (by decide) (by decide) ?_
        exact lc_boy h hv1 cont gg tn tm tp ga mm H locs ls hG hC hP hD hS hl
      by_cases q8 : w = 8
      · refine xs_tin (k := 8) (off := 382) (tgt := 414) hx hb dL_law_32 q8 (by decide) (by decide) (by decide) (by decide) (by decide) ?_
        exact lc_turn h hv1 hv2 hv3 cont gg tn tm tp ga mm H locs ls hG hC hP hD hS hl
      by_cases q9 : w = 9
      · refine xs_tin (k := 9) (off := 425) (tgt := 457) hx hb dL_law_32 q9 (by decide) (by decide) (by decide) (by decide) (by decide) ?_
        exact lc_days h hv1 cont gg tn tm tp ga mm H locs ls hG hC hP hD hS hl
      by_cases q10 : w = 10
      · refine xs_tin (k := 10) (off := 448) (tgt := 480) hx hb dL_law_32 q10 (by decide) (by decide) (by decide) (by decide) (by decide) ?_
        exact lc_nestThen h hv1 hv2 hv3 cont gg tn tm tp ga mm H locs ls hG hC hP hD hS hl
      by_cases q11 : w = 11
      · refine xs_tin (k := 11) (off := 491) (tgt := 523) hx hb dL_law_32 q11 (by decide) (by decide) (by decide) (by decide) (by decide) ?_
        exact lc_robbedThen h hv1 cont gg tn tm tp ga mm H locs ls hG hC hP hD hS hl
      by_cases q12 : w = 12
      · refine xs_tin (k := 12) (off := 514) (tgt := 546) hx hb dL_law_32 q12 (by decide) (by decide) (by decide) (by decide) (by decide) ?_
        exact lc_falls h hv1 cont gg tn tm tp ga mm H locs ls hG hC hP hD hS hl
      by_cases q13 : w = 13
      · refine xs_tin (k := 13) (off := 537) (tgt := 569) hx hb dL_law_32 q13 (by decide) (by decide) (by decide) (by decide) (by decide) ?_
        exact lc_first h hv1 cont gg tn tm tp ga mm H locs ls hG hC hP hD hS hl
      by_cases q14 : w = 14
      · refine xs_tin (k := 14) (off := 560) (tgt := 592) hx hb dL_law_32 q14 (by decide) (by decide) (by decide) (by decide) (by decide) ?_
        exact lc_cushion h hv1 cont gg tn tm tp ga mm H locs ls hG hC hP hD hS hl
      by_cases q15 : w = 15
      · refine xs_tin (k := 15) (off := 583) (tgt := 615) hx hb dL_law_32 q15 (by decide) (by decide) (by decide) (by decide) (by decide) ?_
        exact lc_more h hv1 cont gg tn tm tp ga mm H locs ls hG hC hP hD hS hl
      by_cases q16 : w = 16
      · refine xs_tin (k := 16) (off := 606) (tgt := 638) hx hb dL_law_32 q16 (by decide) (by decide) (by decide) (by decide) (by decide) ?_
        exact lc_softest h hv1 hv2 cont gg tn tm tp ga mm H locs ls hG hC hP hD hS hl
      by_cases q17 : w = 17
      · refine xs_tin (k := 17) (off := 639) (tgt := 671) hx hb dL_law_32 q17 (by decide) (by decide) (by decide) (by decide) (by decide) ?_
        exact lc_prop h hv1 cont gg tn tm tp ga mm H locs ls hG hC hP hD hS hl
      by_cases q18 : w = 18
      · refine xs_tin (k := 18) (off := 662) (tgt := 694) hx hb dL_law_32 q18 (by decide) (by decide) (by decide) (by decide) (by decide) ?_
        exact lc_lighten h hv1 cont gg tn tm tp ga mm H locs ls hG hC hP hD hS hl
      by_cases q19 : w = 19
      · refine xs_tin (k := 19) (off := 685) (tgt := 717) hx hb dL_law_32 q19 (by decide) (by decide) (by decide) (by decide) (by decide) ?_
        exact lc_about h hv1 hv2 cont gg tn tm tp ga mm H locs ls hG hC hP hD hS hl
      by_cases q20 : w = 20
      · refine xs_tin (k := 20) (off := 718) (tgt := 750) hx hb dL_law_32 q20 (by decide) (by decide) (by decide) (by decide) (by decide) ?_
        exact lc_known h cont gg tn tm tp ga mm H locs ls hG hC hP hD hS hl
      by_cases q21 : w = 21
      · refine xs_tin (k := 21) (off := 731) (tgt := 763) hx hb dL_law_32 q21 (by decide) (by decide) (by decide) (by decide) (by decide) ?_
        exact lc_lodge h cont gg tn tm tp ga mm H locs ls hG hC hP hD hS hl
      by_cases q22 : w = 22
      · refine xs_tin (k := 22) (off := 744) (tgt := 776) hx hb dL_law_32 q22 (by decide) (by decide) (by decide) (by decide) (by decide) ?_
        exact lc_fullest h cont gg tn tm tp ga mm H locs ls hG hC hP hD hS hl
      by_cases q23 : w = 23
      · refine xs_tin (k := 23) (off := 757) (tgt := 789) hx hb dL_law_32 q23 (by decide) (by decide) (by decide) (by decide) (by decide) ?_
        exact lc_talk h cont gg tn tm tp ga mm H locs ls hG hC hP hD hS hl
      by_cases q24 : w = 24
      · refine xs_tin (k := 24) (off := 770) (tgt := 802) hx hb dL_law_32 q24 (by decide) (by decide) (by decide) (by decide) (by decide) ?_
        exact lc_keep h hv1 cont gg tn tm tp ga mm H locs ls hG hC hP hD hS hl
      by_cases q25 : w = 25
      · refine xs_tin (k := 25) (off := 793) (tgt := 825) hx hb dL_law_32 q25 (by decide) (by decide) (by decide) (by decide) (by decide) ?_
        exact lc_hush h hv1 cont gg tn tm tp ga mm H locs ls hG hC hP hD hS hl
      by_cases q26 : w = 26
      · refine xs_tin (k := 26) (off := 816) (tgt := 848) hx hb dL_law_32 q26 (by decide) (by decide) (by decide) (by decide) (by decide) ?_
        exact lc_add h hv1 hv2 hv3 cont gg tn tm tp ga mm H locs ls hG hC hP hD hS hl
      by_cases q27 : w = 27
      · refine xs_tin (k := 27) (off := 859) (tgt := 891) hx hb dL_law_32 q27 (by decide) (by decide) (by decide) (by decide) (by decide) ?_
        exact lc_two h hv1 hv2 hv3 cont gg tn tm tp ga mm H locs ls hG hC hP hD hS hl
      by_cases q28 : w = 28
      · refine xs_tin (k := 28) (off := 902) (tgt := 934) hx hb dL_law_32 q28 (by decide) (by decide) (by decide) (by decide) (by decide) ?_
        exact lc_rain h hv1 hv2 hv3 hv4 cont gg tn tm tp ga mm H locs ls hG hC hP hD hS hl
      by_cases q29 : w = 29
      · refine xs_tin (k := 29) (off := 956) (tgt := 988) hx hb dL_law_32 q29 (by decide) (by decide) (by decide) (by decide) (by decide) ?_
        exact lc_mean h hv1 cont gg tn tm tp ga mm H locs ls hG hC hP hD hS hl
      by_cases q30 : w = 30
      · refine xs_tin (k := 30) (off := 980) (tgt := 1012) hx hb dL_law_32 q30 (by decide) (by decide) (by decide) (by decide) (by decide) ?_
        exact lc_whatWas h hv1 hv2 cont gg tn tm tp ga mm H locs ls hG hC hP hD hS hl
      by_cases q31 : w = 31
      · refine xs_tin (k := 31) (off := 1013) (tgt := 1045) hx hb dL_law_32 q31 (by decide) (by decide) (by decide) (by decide) (by decide) ?_
        exact lc_row h hv1 cont gg tn tm tp ga mm H locs ls hG hC hP hD hS hl
      by_cases q32 : w = 32
      · refine xs_tin (k := 32) (off := 1036) (tgt := 1068) hx hb dL_law_32 q32 (by decide) (by decide) (by decide) (by decide) (by decide) ?_
        exact lc_judge h cont gg tn tm tp ga mm H locs ls hG hC hP hD hS hl
      by_cases q33 : w = 33
      · refine xs_tin (k := 33) (off := 1049) (tgt := 1081) hx hb dL_law_32 q33 (by decide) (by decide) (by decide) (by decide) (by decide) ?_
        exact lc_clear h cont gg tn tm tp ga mm H locs ls hG hC hP hD hS hl
      by_cases q34 : w = 34
      · refine xs_tin (k := 34) (off := 1062) (tgt := 1094) hx hb dL_law_32 q34 (by decide) (by decide) (by decide) (by decide) (by decide) ?_
        exact lc_lots h hv1 hv2 hv3 cont gg tn tm tp ga mm H locs ls hG hC hP hD hS hl
      by_cases q35 : w = 35
      · refine xs_tin (k := 35) (off := 1105) (tgt := 1137) hx hb dL_law_32 q35 (by decide) (by decide) (by decide) (by decide) (by decide) ?_
        exact lc_image h cont gg tn tm tp ga mm H locs ls hG hC hP hD hS hl
      by_cases q36 : w = 36
      · refine xs_tin (k := 36) (off := 1118) (tgt := 1150) hx hb dL_law_32 q36 (by decide) (by decide) (by decide) (by decide) (by decide) ?_
        exact lc_on h cont gg tn tm tp ga mm H locs ls hG hC hP hD hS hl
      by_cases q37 : w = 37
      · refine xs_tin (k := 37) (off := 1131) (tgt := 1163) hx hb dL_law_32 q37 (by decide) (by decide) (by decide) (by decide) (by decide) ?_
        exact lc_count h hv1 cont gg tn tm tp ga mm H locs ls hG hC hP hD hS hl
      refine xs_tout (tgt := 1186) (ks := [0, 1, 2, 3, 4, 5, 6, 7, 8, 9, 10, 11, 12, 13, 14, 15, 16, 17, 18, 19, 20, 21, 22, 23, 24, 25, 26, 27, 28, 29, 30, 31, 32, 33, 34, 35, 36, 37]) hx hb dL_law_32 (List.forall_mem_cons.mpr ⟨q0, List.forall_mem_cons.mpr ⟨q1, List.forall_mem_cons.mpr ⟨q2, List.forall_mem_cons.mpr ⟨q3, List.forall_mem_cons.mpr ⟨q4, List.forall_mem_cons.mpr ⟨q5, List.forall_mem_cons.mpr ⟨q6, List.forall_mem_cons.mpr ⟨q7, List.forall_mem_cons.mpr ⟨q8, List.forall_mem_cons.mpr ⟨q9, List.forall_mem_cons.mpr ⟨q10, List.forall_mem_cons.mpr ⟨q11, List.forall_mem_cons.mpr ⟨q12, List.forall_mem_cons.mpr ⟨q13, List.forall_mem_cons.mpr ⟨q14, List.forall_mem_cons.mpr ⟨q15, List.forall_mem_cons.mpr ⟨q16, List.forall_mem_cons.mpr ⟨q17, List.forall_mem_cons.mpr ⟨q18, List.forall_mem_cons.mpr ⟨q19, List.forall_mem_cons.mpr ⟨q20, List.forall_mem_cons.mpr ⟨q21, List.forall_mem_cons.mpr ⟨q22, List.forall_mem_cons.mpr ⟨q23, List.forall_mem_cons.mpr ⟨q24, List.forall_mem_cons.mpr ⟨q25, List.forall_mem_cons.mpr ⟨q26, List.forall_mem_cons.mpr ⟨q27, List.forall_mem_cons.mpr ⟨q28, List.forall_mem_cons.mpr ⟨q29, List.forall_mem_cons.mpr ⟨q30, List.forall_mem_cons.mpr ⟨q31, List.forall_mem_cons.mpr ⟨q32, List.forall_mem_cons.mpr ⟨q33, List.forall_mem_cons.mpr ⟨q34, List.forall_mem_cons.mpr ⟨q35, List.forall_mem_cons.mpr ⟨q36, List.forall_mem_cons.mpr ⟨q37, fun _ h => absurd h List.not_mem_nil⟩⟩⟩⟩⟩⟩⟩⟩⟩⟩⟩⟩⟩⟩⟩⟩⟩⟩⟩⟩⟩⟩⟩⟩⟩⟩⟩⟩⟩⟩⟩⟩⟩⟩⟩⟩⟩⟩) (by decide) (by decide) ?_
      exact cont gg tn tm tp ga mm H locs ls hG hC hP hD hS hl

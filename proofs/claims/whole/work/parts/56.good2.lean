/-! ===== every answer leaves a good state ===== -/
theorem good_rfz {g : GG} (h : Good g) (c : Int32) : Good (rfz g c).2 := h
theorem good_rfzL {g : GG} (h : Good g) (c : Int32) : Good (rfzL g c).2 := h
theorem good_setR {g : GG} (h : Good g) {n : Nat} {r : RR} (hI : Inv n r) (h3 : r 3 = -9) (ha : Abt n r) : Good (g.setR n r) := ⟨⟨hI, h3, ha⟩, h.2⟩
theorem good_kp {g : GG} (h : Good g) {r : RR} (hI : Inv g.n r) (hk : KP g.r r) : Good (g.setR g.n r) := good_setR h hI (hk.1.trans h.k3) (hk.abt h.abt)
theorem good_letter {g : GG} (h : Good g) (c : Int32) : Good (sp_letter g c).2 := by
  unfold sp_letter
  split
  · exact h
  · split
    · exact h
    · rename_i q
      have := h.L96
      exact ⟨h.1, h.2.1, h.2.2.1, (show g.L + 1 ≤ 96 by omega), h.2.2.2.2⟩
theorem good_saying {g : GG} (h : Good g) (p w : Int32) : Good (sp_saying g p w).2 := by unfold sp_saying; (repeat' split) <;> exact h
theorem good_nest {g : GG} (h : Good g) (p w : Int32) : Good (sp_nest g p w).2 := by unfold sp_nest; (repeat' split) <;> exact h
theorem good_takes {g : GG} (h : Good g) (p : Int32) : Good (sp_takes g p).2 := by
  unfold sp_takes
  split
  · exact h
  · rename_i q
    obtain ⟨t, ht, rfl⟩ := (sayB_iff h.le).1 (by simpa using q)
    rw [tN_nI (by have := h.le; omega)]
    refine good_kp h (h.inv.uo _ (by omega) ?_) (kp_o (by omega) (by omega) _)
    rcases h.inv.in01 ht with e | e <;> rw [e]
    · exact okv_4_1
    · exact okv_4_0
theorem good_wears {g : GG} (h : Good g) (p v : Int32) : Good (sp_wears g p v).2 := by
  unfold sp_wears
  split
  · exact h
  · split
    · exact h
    · rename_i q
      obtain ⟨k, _, hk, rfl⟩ := wrB_nat (lo := 0) (hi := 9) (a := 0) (b := 9) rfl rfl (by decide) (by decide) (Classical.not_not.1 q)
      exact good_kp h (h.inv.uo _ (by omega) (okv_3 (by omega) rfl)) (kp_o (by omega) (by omega) _)
theorem good_concerns {g : GG} (h : Good g) (p w : Int32) : Good (sp_concerns g p w).2 := by
  unfold sp_concerns
  split
  · exact h
  · rename_i q
    have hw : womB w = true := by cases e : womB w with
      | true => rfl
      | false => exact absurd (Or.inr e) q
    obtain ⟨x, hx, rfl⟩ := womB_iff.1 hw
    exact good_setR h (h.inv.isetAb _ (okv_2 hx rfl)) ((setAb_lo (by omega)).trans h.k3) (abt_set h.abt _ hx)
theorem good_boy {g : GG} (h : Good g) (w : Int32) : Good (sp_boy g w).2 := by
  unfold sp_boy
  split
  · exact h
  · split
    · exact h
    · exact good_kp h (h.inv.ifall _) (kp_fall _ _ _)
theorem good_turn {g : GG} (h : Good g) (p k f : Int32) : Good (sp_turn g p k f).2 := by
  unfold sp_turn
  split
  · exact h
  · split
    · exact h
    · rename_i q1
      split
      · exact h
      · rename_i q
        obtain ⟨x, _, hx, rfl⟩ := wrB_nat (lo := 0) (hi := 9) (a := 0) (b := 9) rfl rfl (by decide) (by decide) (Classical.not_not.1 q)
        obtain ⟨y, _, hy, rfl⟩ := isI_nat (lo := 0) (hi := 5) (a := 0) (b := 5) rfl rfl (by decide) (by decide) (by simpa using q1)
        exact good_kp h ((h.inv.uo _ (by omega) (okv_0 (by omega) rfl)).uo _ (by omega) (okv_1 (by omega) rfl)) ((kp_o (by omega) (by omega) _).trans (kp_o (by omega) (by omega) _))
theorem good_days {g : GG} (h : Good g) (k : Int32) : Good (sp_days g k).2 := by
  unfold sp_days
  split
  · exact h
  · split
    · exact h
    · exact good_kp h (h.inv.idsR _) (kp_ds _ _ _)
theorem good_row {g : GG} (h : Good g) (v : Int32) : Good (sp_row g v).2 := by
  unfold sp_row
  split
  · exact h
  · split
    · exact h
    · have := h.M16
      exact ⟨h.1, h.2.1, h.2.2.1, h.2.2.2.1, (show g.M + 1 ≤ 16 by omega)⟩
theorem good_clear {g : GG} (h : Good g) : Good (sp_clear g).2 := ⟨h.1, h.2.1, h.2.2.1, h.2.2.2.1, Nat.zero_le _⟩
theorem good_judge {g : GG} (h : Good g) : Good (sp_judge g).2 := ⟨h.1, h.2.1, h.2.2.1, h.2.2.2.1, Nat.zero_le _⟩
theorem good_image {g : GG} (h : Good g) : Good (sp_image g).2 := ⟨h.1, Or.inr rfl, fun _ => h.1, h.2.2.2⟩
theorem good_on {g : GG} (h : Good g) : Good (sp_on g).2 := by
  unfold sp_on
  split
  · exact h
  · rename_i q
    have hs := h.hs01.resolve_left q
    exact ⟨h.img hs, h.2.1, fun _ => h.img hs, h.2.2.2⟩
theorem good_count {g : GG} (h : Good g) (w : Int32) : Good (sp_count g w).2 := by unfold sp_count; (repeat' split) <;> exact h
theorem good_nestThen {g : GG} (h : Good g) (p k w : Int32) : Good (sp_nestThen g p k w).2 := by unfold sp_nestThen; (repeat' split) <;> exact h
theorem good_robbedThen {g : GG} (h : Good g) (k : Int32) : Good (sp_robbedThen g k).2 := by unfold sp_robbedThen; (repeat' split) <;> exact h
theorem good_falls {g : GG} (h : Good g) (p : Int32) : Good (sp_falls g p).2 := by unfold sp_falls; (repeat' split) <;> exact h
theorem good_first {g : GG} (h : Good g) (w : Int32) : Good (sp_first g w).2 := by unfold sp_first; (repeat' split) <;> exact h
theorem good_cushion {g : GG} (h : Good g) (w : Int32) : Good (sp_cushion g w).2 := by
  unfold sp_cushion; split
  · exact h
  · exact h
theorem good_more {g : GG} (h : Good g) (p : Int32) : Good (sp_more g p).2 := by unfold sp_more; (repeat' split) <;> exact h
theorem good_softest {g : GG} (h : Good g) (p w : Int32) : Good (sp_softest g p w).2 := by unfold sp_softest; (repeat' split) <;> exact h
theorem good_prop {g : GG} (h : Good g) (p : Int32) : Good (sp_prop g p).2 := by unfold sp_prop; (repeat' split) <;> exact h
theorem good_lighten {g : GG} (h : Good g) (p : Int32) : Good (sp_lighten g p).2 := by unfold sp_lighten; (repeat' split) <;> exact h
theorem good_about {g : GG} (h : Good g) (p w : Int32) : Good (sp_about g p w).2 := by unfold sp_about; (repeat' split) <;> exact h
theorem good_keep {g : GG} (h : Good g) (k : Int32) : Good (sp_keep g k).2 := by unfold sp_keep; (repeat' split) <;> exact h
theorem good_hush {g : GG} (h : Good g) (k : Int32) : Good (sp_hush g k).2 := by unfold sp_hush; (repeat' split) <;> exact h
theorem good_add {g : GG} (h : Good g) (p k w : Int32) : Good (sp_add g p k w).2 := by unfold sp_add; (repeat' split) <;> exact h
theorem good_two {g : GG} (h : Good g) (a b k : Int32) : Good (sp_two g a b k).2 := by
  unfold sp_two; split
  · exact h
  · split <;> exact h
theorem good_rain {g : GG} (h : Good g) (p k t w : Int32) : Good (sp_rain g p k t w).2 := by unfold sp_rain; (repeat' split) <;> exact h
theorem good_mean {g : GG} (h : Good g) (w : Int32) : Good (sp_mean g w).2 := by unfold sp_mean; (repeat' split) <;> exact h
theorem good_whatWas {g : GG} (h : Good g) (p w : Int32) : Good (sp_whatWas g p w).2 := by
  unfold sp_whatWas; split
  · exact h
  · split <;> exact h
theorem good_lots {g : GG} (h : Good g) (k z w : Int32) : Good (sp_lots g k z w).2 := by unfold sp_lots; (repeat' split) <;> exact h
theorem tl_good {lt : RR} {L : Nat} (hL : L ≤ 96) {n0 : Nat} {r0 : RR} {R : Int32 × Nat} (h9 : R.1 = -9) (h0 : Whole n0 r0) : ∀ fu s m n r, 98 ≤ s + fu → PwQ (hrF lt L) L fu s m R → Whole n r → Whole (tlA (hrF lt L) L n0 r0 fu s n r).2.1 (tlA (hrF lt L) L n0 r0 fu s n r).2.2
  | 0, _, _, _, _, _, _, hw => hw
  | fu + 1, s, m, n, r, hfu, hQ, hw => by
    rw [tlA]
    split
    · rename_i hs
      obtain ⟨hok, hQ2⟩ := tl_ok hQ h9 hs hfu hL
      have hl := rsF_le lt L s hok
      split
      · obtain ⟨k1, k2⟩ := dn_keep (c := hrF lt L s) (a := nbA (hrF lt L) s) (b := nbB (hrF lt L) s) (w := nbC (hrF lt L) s) hw.2.1 hw.2.2
        exact tl_good hL h9 h0 fu _ (m + 1) _ _ (by omega) hQ2 ⟨hw.1.idn (fun q => rsF_A hok q) (fun q => rsF_B hok q), k1, k2⟩
      · exact h0
    · exact hw
theorem good_close {g : GG} (h : Good g) : Good (sp_close g).2 := by
  unfold sp_close
  split
  · rename_i q
    exact ⟨tl_good h.L96 q h.1 98 0 0 g.n g.r (by omega) (Or.inl ⟨rfl, Or.inr rfl⟩) h.1, h.2.1, h.2.2.1, Nat.zero_le _, h.2.2.2.2⟩
  · exact ⟨h.1, h.2.1, h.2.2.1, Nat.zero_le _, h.2.2.2.2⟩

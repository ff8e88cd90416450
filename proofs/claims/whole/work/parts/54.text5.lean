theorem neg2000 {q : Nat} (hq : q ≤ 1000) : (-2000 - nI q : Int32) < 0 := by
  rw [Int32.lt_iff_toInt_lt, Int32.toInt_sub, nI_toInt (by omega), show (-2000 : Int32).toInt = -2000 from by decide, show (0 : Int32).toInt = 0 from rfl, Int.bmod_eq_of_le (by omega) (by omega)]; omega
theorem rd_cnt (h : Nat → Int32) (L : Nat) : ∀ fu p m, (rdA h L fu p m).2 ≤ m + fu
  | 0, _, m => Nat.le_refl _
  | fu + 1, p, m => by
    rw [rdA]; split
    · show m + 1 ≤ _; omega
    · split
      · have := rd_cnt h L fu (rsF h p).2 (m + 1); omega
      · show m + 1 ≤ _; omega
theorem rd_nn (h : Nat → Int32) (L : Nat) : ¬ nI (rdA h L 98 0 0).2 < 0 := nI_nn (by have := rd_cnt h L 98 0 0; omega)

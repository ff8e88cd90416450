/-! ===== the row, springs ===== -/
theorem okv_01 {j m : Nat} {x : Int32} (hx : x = nI m) (h : (j = 0 ∧ m < 6) ∨ (j = 1 ∧ m < 10)) : okv j x := by
  rcases h with ⟨rfl, h⟩ | ⟨rfl, h⟩
  · exact okv_0 h hx
  · exact okv_1 h hx
def wwI (R : RR) (n : Nat) (w : Int32) (rw : RR) : Nat → Bool
  | 0 => true
  | i + 1 => wwI R n w rw i && decide (sumN (dsR R n i) (nst (dsR R n i) n w) 1 n = rw i)
theorem ww_t {R : RR} {n : Nat} {w : Int32} {rw : RR} {i : Nat} (h : sumN (dsR R n i) (nst (dsR R n i) n w) 1 n = rw i) : wwI R n w rw (i + 1) = wwI R n w rw i := by
  simp [wwI, h]
theorem ww_f {R : RR} {n : Nat} {w : Int32} {rw : RR} {i : Nat} (h : ¬ sumN (dsR R n i) (nst (dsR R n i) n w) 1 n = rw i) : wwI R n w rw (i + 1) = false := by
  simp [wwI, h]
theorem b_and1 (b : Bool) : (if b = true then (1 : Int32) else 0) &&& 1 = if b = true then 1 else 0 := by cases b <;> rfl
theorem b_and0 (b : Bool) : (if b = true then (1 : Int32) else 0) &&& 0 = if false = true then 1 else 0 := by cases b <;> rfl
def wwF (r : RR) (n t what : Nat) (w : Int32) (rw : RR) (M : Nat) : Nat → Int32
  | 0 => 0
  | k + 1 => wwF r n t what w rw M k ||| (if wwI (upd r (oF t what) (nI k)) n w rw M = true then (1 : Int32) <<< (nI k &&& 31) else 0)
def sp_whatWas (g : GG) (p w : Int32) : Int32 × GG := if sayB g.n p = false then rfz g (-1) else if isI w 0 1 = false then rfz g (-2) else (wwF g.r g.n (tN p) (tN w) (g.r (oF (tN p) 2)) g.rw g.M (if w = 0 then 6 else 10), g)
def juP (r : RR) (n : Nat) (rw : RR) : Nat → Bool := fun j => decide (¬ nI (cntN (inS (dsR r n j) n) 10) = rw j)
def sp_judge (g : GG) : Int32 × GG := ((if ff (juP g.r g.n g.rw) g.M < g.M then nI (ff (juP g.r g.n g.rw) g.M) else -9), (g.n, g.r, g.m, g.im, g.hs, g.lt, g.L, g.rw, 0, g.rf))
def lcg (s : Int32) : Int32 := s * 1664525 + 1013904223
def drw (s : Int32) : Int32 := (s &&& 2147483647) / 256 - (s &&& 2147483647) / 256 / 4 * 4
theorem drw_nat (s : Int32) : ∃ w, w < 4 ∧ drw s = nI w := by
  have h1 : (s &&& 2147483647).toInt = s.toInt % 2 ^ 31 ∧ 0 ≤ (s &&& 2147483647).toInt ∧ (s &&& 2147483647).toInt < 2 ^ 31 := by
    have e : (s &&& 2147483647).toBitVec.toNat = s.toBitVec.toNat % 2 ^ 31 := by
      rw [Int32.toBitVec_and, BitVec.toNat_and]
      exact Nat.and_two_pow_sub_one_eq_mod _ 31
    have e2 : (s &&& 2147483647).toInt = ((s.toBitVec.toNat % 2 ^ 31 : Nat) : Int) := by
      rw [← Int32.toInt_toBitVec, BitVec.toInt_eq_toNat_of_lt (by rw [e]; omega), e]
    have e3 : s.toInt = s.toBitVec.toInt := (Int32.toInt_toBitVec s).symm
    have e4 := BitVec.toInt_eq_toNat_cond s.toBitVec
    refine ⟨?_, by omega, by omega⟩
    rw [e2, e3, e4]
    split <;> omega
  obtain ⟨m, hm⟩ : ∃ m : Nat, (s &&& 2147483647).toInt = m := ⟨(s &&& 2147483647).toInt.toNat, by omega⟩
  have hmb : m < 2147483648 := by omega
  have e1 : (s &&& 2147483647) = nI m := Int32.toInt_inj.mp (by rw [nI_toInt hmb]; exact hm)
  refine ⟨m / 256 % 4, Nat.mod_lt _ (by omega), ?_⟩
  have d1 : (nI m / 256).toInt = ((m / 256 : Nat) : Int) := by
    rw [Int32.toInt_div, nI_toInt hmb]
    rw [show (256 : Int32).toInt = 256 from rfl, Int.tdiv_eq_ediv_of_nonneg (by omega)]
    rw [Int.bmod_eq_of_le (by omega) (by omega)]; rfl
  have d2 : nI m / 256 = nI (m / 256) := Int32.toInt_inj.mp (by rw [d1, nI_toInt (by omega)])
  have d3 : (nI (m / 256) / 4).toInt = ((m / 256 / 4 : Nat) : Int) := by
    rw [Int32.toInt_div, nI_toInt (by omega)]
    rw [show (4 : Int32).toInt = 4 from rfl, Int.tdiv_eq_ediv_of_nonneg (by omega)]
    rw [Int.bmod_eq_of_le (by omega) (by omega)]; rfl
  have d4 : nI (m / 256) / 4 = nI (m / 256 / 4) := Int32.toInt_inj.mp (by rw [d3, nI_toInt (by omega)])
  have d5 : nI (m / 256 / 4) * 4 = nI (m / 256 / 4 * 4) := ni_mul (a := m / 256 / 4) (b := 4) rfl rfl rfl
  rw [drw, e1, d2, d4, d5]
  have d6 := ni_sub (z := nI (m / 256) - nI (m / 256 / 4 * 4)) (a := m / 256) (b := m / 256 / 4 * 4) rfl rfl rfl (by omega)
  rw [d6]; congr 1; omega
def ltR (r : RR) (s : Int32) : Nat → RR × Int32
  | 0 => (r, s)
  | t + 1 => (setAb (ltR r s t).1 t (drw (lcg (ltR r s t).2)), lcg (ltR r s t).2)
theorem Inv.iltR {n : Nat} {r : RR} (h : Inv n r) (s : Int32) : ∀ t, Inv n (ltR r s t).1
  | 0 => h
  | t + 1 => by
    obtain ⟨w, hw, e⟩ := drw_nat (lcg (ltR r s t).2)
    rw [ltR]; exact (h.iltR s t).isetAb _ (okv_2 hw e)
def luS (r : RR) (n : Nat) (w : Int32) (q : Int32 × Int32) : Int32 × Int32 :=
  (q.1 + (if w = 0 then nI (dsV (ltR r q.2 n).1 n 15) else sumN (dsR (ltR r q.2 n).1 n 15) (inS (dsR (ltR r q.2 n).1 n 15) n) 1 n), (ltR r q.2 n).2)
def luF (r : RR) (n : Nat) (w z : Int32) : Nat → Int32 × Int32
  | 0 => (0, z)
  | j + 1 => luS r n w (luF r n w z j)
def sp_lots (g : GG) (k z w : Int32) : Int32 × GG := if ¬ 1 ≤ k then rfz g (-4) else if ¬ k ≤ 20 then rfz g (-6) else if isI w 0 1 = false then rfz g (-2) else ((luF g.r g.n w z (tN k)).1, g)

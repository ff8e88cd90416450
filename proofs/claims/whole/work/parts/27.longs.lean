/-! ===== fractions ===== -/
def nL (n : Nat) : Int64 := Int64.ofNat n
theorem nL_toInt {n : Nat} (h : n < 2 ^ 63) : (nL n).toInt = n := lg_ofNat_toInt h
theorem nL_add (a b : Nat) : nL a + nL b = nL (a + b) := (Int64.ofNat_add a b).symm
theorem nL_mul (a b : Nat) : nL a * nL b = nL (a * b) := (Int64.ofNat_mul a b).symm
theorem nL_eq {a b : Nat} (ha : a < 2 ^ 63) (hb : b < 2 ^ 63) : nL a = nL b ↔ a = b := by
  rw [← Int64.toInt_inj, nL_toInt ha, nL_toInt hb]; omega
theorem nL_0 : nL 0 = 0 := rfl
theorem nL_1 : nL 1 = 1 := rfl
theorem nL_eq0 {a : Nat} (ha : a < 2 ^ 63) : nL a = 0 ↔ a = 0 := nL_eq (b := 0) ha (by omega)
theorem nL_div {a b : Nat} (ha : a < 2 ^ 63) (hb : b < 2 ^ 63) (h : 0 < b) : nL a / nL b = nL (a / b) := by
  apply Int64.toInt_inj.mp
  have hq : a / b ≤ a := Nat.div_le_self a b
  rw [lg_ldiv_nonneg (by rw [nL_toInt ha]; omega) (by rw [nL_toInt hb]; omega), nL_toInt ha, nL_toInt hb, nL_toInt (by omega)]
  rfl
theorem nL_rem {a b : Nat} (ha : a < 2 ^ 63) (hb : b < 2 ^ 63) (_ : 0 < b) : nL a - nL a / nL b * nL b = nL (a % b) := by
  apply Int64.toInt_inj.mp
  have hq : a % b ≤ a := Nat.mod_le a b
  rw [Jvm.Kit.i64_rem_nonneg (by rw [nL_toInt ha]; omega), nL_toInt ha, nL_toInt hb, nL_toInt (by omega)]
  rfl
theorem nI_toL {a : Nat} (ha : a < 2147483648) : (nI a).toInt64 = nL a := by
  apply Int64.toInt_inj.mp
  rw [Jvm.Kit.i64_of_i32, nI_toInt (by omega), nL_toInt (by omega)]
theorem lc_eq {a b : Int64} : lg_cmp a b = 0 ↔ a = b := by
  unfold lg_cmp
  split
  · rename_i h; exact ⟨fun q => absurd q (by decide), fun q => by subst q; simp only [GT.gt, Int64.lt_iff_toInt_lt] at h; omega⟩
  · split
    · rename_i h; exact ⟨fun _ => h, fun _ => rfl⟩
    · rename_i h; exact ⟨fun q => absurd q (by decide), fun q => absurd q h⟩
theorem gcd_step (a b : Nat) : Nat.gcd b (a % b) = Nat.gcd a b := by rw [Nat.gcd_comm b, ← Nat.gcd_rec, Nat.gcd_comm]
def ptN (a b : Nat) (p : Int32) : Int64 := if a = 0 then p.toInt64 else nL ((if p = 0 then a else b) / Nat.gcd a b)
def raW (T : Nat) (set : Int32) : Nat → Nat
  | 0 => 1
  | k + 1 => raW T set k * (if bt set k = true then 1 else T - 1)
def raR (r : RR) (n : Nat) (set : Int32) : Nat → RR
  | 0 => r
  | k + 1 => dayR (if bt set k = true then rnN (raR r n set k) n else raR r n set k) n
def raA (r : RR) (n : Nat) (p : Int32) (K T : Nat) : Nat → Nat
  | 0 => 0
  | s + 1 => raA r n p K T s + (if nst (raR r n (nI s) K) n p = 0 then 0 else raW T (nI s) K)
theorem Inv.iraR {n : Nat} {r : RR} (h : Inv n r) (set : Int32) : ∀ k, Inv n (raR r n set k)
  | 0 => h
  | k + 1 => by
    rw [raR]; split
    · exact ((h.iraR set k).irnN _ (Nat.le_refl _)).idayR
    · exact (h.iraR set k).idayR
theorem raW_le (T : Nat) (hT : 1 ≤ T) (set : Int32) : ∀ k, raW T set k ≤ T ^ k
  | 0 => Nat.le_refl _
  | k + 1 => by
    rw [raW, Nat.pow_succ]
    refine Nat.mul_le_mul (raW_le T hT set k) ?_
    split <;> omega
theorem raW_pos (T : Nat) (hT : 2 ≤ T) (set : Int32) : ∀ k, 0 < raW T set k
  | 0 => by simp [raW]
  | k + 1 => by
    rw [raW]
    exact Nat.mul_pos (raW_pos T hT set k) (by split <;> omega)
theorem raA_le (r : RR) (n : Nat) (p : Int32) (K T : Nat) (hT : 1 ≤ T) : ∀ s, raA r n p K T s ≤ s * T ^ K
  | 0 => Nat.zero_le _
  | s + 1 => by
    have h1 := raA_le r n p K T hT s
    have h2 := raW_le T hT (nI s) K
    rw [raA, Nat.add_mul]
    split <;> omega
theorem pow_le7 {T K : Nat} (hT : T ≤ 20) (hT1 : 1 ≤ T) (hK : K ≤ 7) : T ^ K ≤ 1280000000 :=
  Nat.le_trans (Nat.pow_le_pow_left hT K) (Nat.le_trans (Nat.pow_le_pow_right (by omega) hK) (by decide))
theorem two_le7 {K : Nat} (hK : K ≤ 7) : 2 ^ K ≤ 128 := Nat.le_trans (Nat.pow_le_pow_right (by omega) hK) (by decide)
theorem raA_b {r : RR} {n : Nat} {p : Int32} {K T : Nat} (hT : T ≤ 20) (hT1 : 1 ≤ T) (hK : K ≤ 7) : raA r n p K T (2 ^ K) < 2 ^ 62 := by
  have h1 := raA_le r n p K T hT1 (2 ^ K)
  have h2 := Nat.mul_le_mul (two_le7 hK) (pow_le7 hT hT1 hK)
  omega
theorem pow_b {T K : Nat} (hT : T ≤ 20) (hT1 : 1 ≤ T) (hK : K ≤ 7) : T ^ K < 2 ^ 62 := by
  have := pow_le7 hT hT1 hK; omega
def meC (r : RR) (n : Nat) : Nat → Nat
  | 0 => 0
  | w + 1 => meC r n w + (if nst r n (nI w) = 0 then 0 else 1)
theorem meC_le (r : RR) (n : Nat) : ∀ w, meC r n w ≤ w
  | 0 => Nat.le_refl _
  | w + 1 => by have := meC_le r n w; rw [meC]; split <;> omega
def rfzL (g : GG) (c : Int32) : Int64 × GG := (4000000000000000000 - c.toInt64, (rfz g c).2)
def sp_rain (g : GG) (p k t part : Int32) : Int64 × GG := if womB p = false then rfzL g (-1) else if k < 0 ∨ ¬ 2 ≤ t then rfzL g (-4) else if 7 < k ∨ ¬ t ≤ 20 then rfzL g (-6) else if isI part 0 1 = false then rfzL g (-2) else (ptN (raA g.r g.n p (tN k) (tN t) (2 ^ tN k)) (tN t ^ tN k) part, g)
def sp_mean (g : GG) (part : Int32) : Int64 × GG := if isI part 0 1 = false then rfzL g (-2) else (ptN (tN (sumN g.r (inS g.r g.n) 1 g.n)) (meC g.r g.n 4) part, g)
theorem one_shl {x : Int32} {k : Nat} (hx : x = nI k) (hk : k ≤ 9) : (1 : Int32) <<< (x &&& 31) = nI (2 ^ k) := sh_1 hx hk

theorem euc_step {a b i P : Nat} (hb : 0 < b) (h : (i = 0 ∧ a * b ≤ P) ∨ (1 ≤ i ∧ b < a ∧ a * b * 2 ^ (i - 1) ≤ P)) : 1 ≤ i + 1 ∧ a % b < b ∧ b * (a % b) * 2 ^ (i + 1 - 1) ≤ P := by
  have hm := Nat.mod_lt a hb
  refine ⟨by omega, hm, ?_⟩
  rw [Nat.add_sub_cancel]
  rcases h with ⟨rfl, h⟩ | ⟨h1, h2, h3⟩
  · have : b * (a % b) ≤ b * a := Nat.mul_le_mul_left b (Nat.mod_le a b)
    rw [Nat.mul_comm b a] at this; simpa using Nat.le_trans this h
  · obtain ⟨k, rfl⟩ : ∃ k, i = k + 1 := ⟨i - 1, by omega⟩
    rw [Nat.add_sub_cancel] at h3
    have h4 : 2 * (a % b) ≤ a := by
      have h5 := Nat.div_add_mod a b
      have h6 : 1 ≤ a / b := Nat.div_pos (by omega) hb
      have h7 : b * 1 ≤ b * (a / b) := Nat.mul_le_mul_left b h6
      omega
    have h8 : b * (2 * (a % b)) ≤ b * a := Nat.mul_le_mul_left b h4
    calc b * (a % b) * 2 ^ (k + 1) = b * (2 * (a % b)) * 2 ^ k := by rw [Nat.pow_succ, Nat.mul_comm (2 ^ k) 2, ← Nat.mul_assoc, Nat.mul_assoc b, Nat.mul_comm (a % b) 2]
      _ ≤ b * a * 2 ^ k := Nat.mul_le_mul_right _ h8
      _ = a * b * 2 ^ k := by rw [Nat.mul_comm b a]
      _ ≤ P := h3
theorem euc_end {a b P : Nat} (hP : P < 2 ^ 80) (h : (100 = 0 ∧ a * b ≤ P) ∨ (1 ≤ 100 ∧ b < a ∧ a * b * 2 ^ (100 - 1) ≤ P)) : b = 0 := by
  rcases Nat.eq_zero_or_pos b with q | q
  · exact q
  · exfalso
    have h3 := (h.resolve_left (by omega)).2
    have h4 : 1 ≤ a * b := Nat.mul_pos (by omega) q
    have h5 : 1 * 2 ^ 99 ≤ a * b * 2 ^ 99 := Nat.mul_le_mul_right _ h4
    have h6 : a * b * 2 ^ 99 ≤ P := h3.2
    have h7 : (2 : Nat) ^ 80 ≤ 2 ^ 99 := by decide
    omega
theorem mul_b40 {x y : Nat} (hx : x < 2 ^ 40) (hy : y < 2 ^ 40) : x * y < 2 ^ 80 := by
  have h1 : x * y ≤ x * 2 ^ 40 := Nat.mul_le_mul_left x (by omega)
  have h2 : x * 2 ^ 40 < 2 ^ 40 * 2 ^ 40 := Nat.mul_lt_mul_of_pos_right hx (by decide)
  have h3 : (2 : Nat) ^ 40 * 2 ^ 40 = 2 ^ 80 := by decide
  omega
theorem nL_lt {a b : Nat} (ha : a < 2 ^ 63) (hb : b < 2 ^ 63) : nL a < nL b ↔ a < b := by
  rw [Int64.lt_iff_toInt_lt, nL_toInt ha, nL_toInt hb]; omega
theorem max1 {r : Int64} {g : Nat} (h : r = nL g) (hg : g < 2 ^ 63) : (if r < (1 : Int64) then 1 else r) = nL (max 1 g) := by
  subst h
  rw [← nL_1]
  simp only [nL_lt hg (show 1 < 2 ^ 63 by decide)]
  split
  · rw [Nat.max_eq_left (by omega)]
  · rw [Nat.max_eq_right (by omega)]
theorem pt_eq {x y : Nat} {p : Int32} (hy : 0 < y) (hp : p = 0 ∨ p = 1) : nL ((if p = 0 then x else y) / max 1 (Nat.gcd x y)) = ptN x y p := by
  rw [ptN]
  have hg : 0 < Nat.gcd x y := Nat.gcd_pos_of_pos_right _ hy
  rw [Nat.max_eq_right hg]
  by_cases q : x = 0
  · rw [if_pos q, q, Nat.gcd_zero_left]
    rcases hp with rfl | rfl
    · rw [if_pos rfl, Nat.zero_div]; rfl
    · rw [if_neg (by decide), Nat.div_self hy]; rfl
  · rw [if_neg q]
theorem raW_cnt (T : Nat) (set : Int32) : ∀ k, raW T set k = (T - 1) ^ (k - cntN set k)
  | 0 => rfl
  | k + 1 => by
    have h := cntN_le set k
    rw [raW, cntN, raW_cnt T set k]
    cases q : bt set k with
    | true => simp only [if_true]; rw [show k + 1 - (cntN set k + 1) = k - cntN set k by omega, Nat.mul_one]
    | false => simp only [Bool.false_eq_true, if_false]; rw [show k + 1 - (cntN set k + 0) = (k - cntN set k) + 1 by omega, Nat.pow_succ]
theorem cnt_K {s K : Nat} (hs : s < 2 ^ K) (hK : K ≤ 7) : cntN (nI s) 10 = cntN (nI s) K :=
  cntN_ge (by omega) (fun i h1 h2 => by rw [bt_nI s (by omega)]; exact Nat.testBit_lt_two_pow (Nat.lt_of_lt_of_le hs (Nat.pow_le_pow_right (by omega) h1)))
theorem pow_b7 {T K : Nat} (hT : T ≤ 20) (hT1 : 1 ≤ T) (hK : K ≤ 7) : T ^ K < 2 ^ 40 := by
  have := pow_le7 hT hT1 hK; omega
theorem raA_b7 {r : RR} {n : Nat} {p : Int32} {K T : Nat} (hT : T ≤ 20) (hT1 : 1 ≤ T) (hK : K ≤ 7) : raA r n p K T (2 ^ K) < 2 ^ 40 := by
  have h1 := raA_le r n p K T hT1 (2 ^ K)
  have h2 := Nat.mul_le_mul (two_le7 hK) (pow_le7 hT hT1 hK)
  omega
/-- where no nest holds anything, nothing is in -/
theorem me_0 {r : RR} {n : Nat} (hn : n ≤ 9) (ha : Abt n r) (h : meC r n 4 = 0) : sumN r (inS r n) 1 n = 0 := by
  have hw : ∀ w, w < 4 → nst r n (nI w) = 0 := by
    simp only [meC] at h
    intro w hw
    apply Classical.byContradiction; intro q
    have : w = 0 ∨ w = 1 ∨ w = 2 ∨ w = 3 := by omega
    rcases this with rfl | rfl | rfl | rfl <;> rw [if_neg q] at h <;> omega
  have e : inS r n = 0 := by
    apply bt_ext; intro i hi
    rw [bt_inS hn, bt_0]
    by_cases q : i < n
    · obtain ⟨a, ha4, e⟩ := ha i q
      have := congrArg (fun z => bt z i) (hw a ha4)
      simp only [bt_nst hn, bt_0] at this
      rw [e] at this
      simpa [q] using this
    · simp [q]
  rw [e, sumN_0]
theorem maxI {x : Int32} {m : Nat} (h : x = nI m) (hm : m < 1000) : (if (1 : Int32) < x then x else 1) = nI (max 1 m) := by
  subst h
  simp only [ni_lt (a := 1) (b := m) (rfl : (1 : Int32) = nI 1) rfl (by omega) (by omega)]
  split
  · rw [Nat.max_eq_right (by omega)]
  · rw [Nat.max_eq_left (by omega)]; rfl
theorem pt_mean {r : RR} {n sx : Nat} {p : Int32} (hn : n ≤ 9) (ha : Abt n r) (es : sumN r (inS r n) 1 n = nI sx) (hsx : sx < 2147483648) (hp : p = 0 ∨ p = 1) : ptN sx (max 1 (meC r n 4)) p = ptN sx (meC r n 4) p := by
  rcases Nat.eq_zero_or_pos (meC r n 4) with q | q
  · have h0 := me_0 hn ha q
    rw [es] at h0
    have hz : sx = 0 := nI_inj hsx (by omega) (h0.trans (rfl : (0 : Int32) = nI 0))
    subst hz
    rw [ptN, ptN, if_pos rfl, if_pos rfl]
  · rw [Nat.max_eq_right q]

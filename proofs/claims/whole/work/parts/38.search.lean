/-! ===== the class's searches are the reference's ===== -/
theorem sub_bt {x S : Int32} : x &&& (S ^^^ (-1)) = 0 ↔ ∀ i, i < 32 → bt x i = true → bt S i = true := by
  constructor
  · intro h i hi hx
    have := congrArg (fun z => bt z i) h
    simp only [bt_and, bt_n S hi, bt_0, hx, Bool.true_and] at this
    simpa using this
  · intro h
    apply bt_ext; intro i hi
    rw [bt_and, bt_n S hi, bt_0]
    cases q : bt x i with
    | false => rfl
    | true => rw [h i hi q]; rfl
theorem bt_nI (a : Nat) {i : Nat} (hi : i < 32) : bt (nI a) i = a.testBit i := by
  show (BitVec.ofNat 32 a).getLsbD i = _
  rw [BitVec.getLsbD_ofNat]; simp [hi]
theorem sub_le {a S : Nat} (ha : a < 2147483648) (hS : S < 2147483648) (h : nI a &&& (nI S ^^^ (-1)) = 0) : a ≤ S := by
  have e : a &&& S = a := by
    apply Nat.eq_of_testBit_eq; intro i
    rw [Nat.testBit_and]
    by_cases hi : i < 32
    · cases q : a.testBit i with
      | false => rfl
      | true =>
        have := sub_bt.1 h i hi (by rw [bt_nI a hi]; exact q)
        rw [bt_nI S hi] at this; rw [this]; rfl
    · have h9 : (2 : Nat) ^ 31 ≤ 2 ^ i := Nat.pow_le_pow_right (by decide) (by omega)
      have h8 : (2 : Nat) ^ 31 = 2147483648 := by decide
      have : a < 2 ^ i := by omega
      rw [Nat.testBit_lt_two_pow this]; rfl
  rw [← e]; exact Nat.and_le_right
theorem cnt9 {m : Nat} (h : m < 512) : cntN (nI m) 10 ≤ 9 := by
  have h1 := cntN_le (nI m) 9
  have h2 : bt (nI m) 9 = false := by rw [bt_nI m (by omega)]; exact Nat.testBit_lt_two_pow (by omega)
  rw [cntN, h2]; simpa using h1
theorem cnt_mono {x S : Int32} : ∀ n, (∀ i, i < n → bt x i = true → bt S i = true) → cntN x n ≤ cntN S n
  | 0, _ => Nat.le_refl _
  | n + 1, h => by
    have h1 := cnt_mono n (fun i hi => h i (by omega))
    have h2 := h n (by omega)
    rw [cntN, cntN]
    cases q : bt x n with
    | false => simp only [Bool.false_eq_true, if_false]; omega
    | true => rw [h2 q]; simpa using h1
theorem cnt_lt {x S : Int32} : ∀ n, (∀ i, i < n → bt x i = true → bt S i = true) → (∃ i, i < n ∧ bt x i = false ∧ bt S i = true) → cntN x n < cntN S n
  | 0, _, ⟨i, hi, _⟩ => absurd hi (Nat.not_lt_zero _)
  | n + 1, h, ⟨i, hi, h1, h2⟩ => by
    rw [cntN, cntN]
    by_cases q : i = n
    · subst q
      have := cnt_mono i (fun j hj => h j (by omega))
      rw [h1, h2]; simp only [Bool.false_eq_true, if_false, if_true]; omega
    · have h3 := cnt_lt n (fun j hj => h j (by omega)) ⟨i, by omega, h1, h2⟩
      have h4 := h n (by omega)
      cases q2 : bt x n with
      | false => simp only [Bool.false_eq_true, if_false]; omega
      | true => rw [h4 q2]; simpa using h3
theorem ne_bit {a S : Nat} (ha : a < 512) (hS : S < 512) (hs : nI a &&& (nI S ^^^ (-1)) = 0) (hne : a ≠ S) : ∃ i, i < 10 ∧ bt (nI a) i = false ∧ bt (nI S) i = true := by
  apply Classical.byContradiction
  intro hn
  apply hne
  apply Nat.eq_of_testBit_eq; intro i
  by_cases hi : i < 10
  · rw [← bt_nI a (by omega), ← bt_nI S (by omega)]
    cases q : bt (nI a) i with
    | true => exact (sub_bt.1 hs i (by omega) q).symm
    | false =>
      cases q2 : bt (nI S) i with
      | false => rfl
      | true => exact absurd ⟨i, hi, q, q2⟩ hn
  · have h5 : (512 : Nat) ≤ 2 ^ i := Nat.le_trans (by decide) (Nat.pow_le_pow_right (by omega) (by omega : 9 ≤ i))
    rw [Nat.testBit_lt_two_pow (by omega), Nat.testBit_lt_two_pow (by omega)]
theorem nst_natn {r : RR} {n : Nat} (hn : n ≤ 9) (w : Int32) : ∃ S : Nat, S < 2 ^ n ∧ nst r n w = nI S := by
  obtain ⟨m, hm, e⟩ := small_of_bt (x := nst r n w) (n := n) (by omega) (fun i h1 h2 => by
    rw [bt_nst hn]; have : ¬ i < n := by omega
    simp [this])
  exact ⟨m, hm, e⟩
theorem sad_natn {r : RR} {n : Nat} (hn : n ≤ 9) (w : Int32) : ∃ S : Nat, S < 2 ^ n ∧ sad r n w = nI S := by
  obtain ⟨m, hm, e⟩ := small_of_bt (x := sad r n w) (n := n) (by omega) (fun i h1 h2 => by
    rw [bt_sad hn]; have : ¬ i < n := by omega
    simp [this])
  exact ⟨m, hm, e⟩
theorem all_natn {r : RR} {n : Nat} (hn : n ≤ 9) (w : Int32) : ∃ S : Nat, S < 2 ^ n ∧ nst r n w ||| sad r n w = nI S := by
  obtain ⟨m, hm, e⟩ := small_of_bt (x := nst r n w ||| sad r n w) (n := n) (by omega) (fun i h1 h2 => by
    have : ¬ i < n := by omega
    rw [bt_or, bt_nst hn, bt_sad hn]; simp [this])
  exact ⟨m, hm, e⟩
theorem fm_stab {r : RR} {n : Nat} {set : Int32} {S : Nat} (hS : S < 512) : ∀ k, S + 1 + k ≤ 512 → fmS r n set (nI S) (S + 1 + k) = fmS r n set (nI S) (S + 1)
  | 0, _ => rfl
  | k + 1, h => by
    rw [show S + 1 + (k + 1) = (S + 1 + k) + 1 by omega, fmS, if_neg, fm_stab hS k (by omega)]
    rintro ⟨q, _⟩
    have := sub_le (by omega) (by omega) q
    omega
theorem fm_inv {r : RR} {n : Nat} {set pool : Int32} : ∀ m, ((fmS r n set pool m).1 = -9 ∧ (fmS r n set pool m).2 = 10) ∨ ∃ b, b < m ∧ (fmS r n set pool m).1 = nI b ∧ (fmS r n set pool m).2 = cntN (nI b) 10
  | 0 => Or.inl ⟨rfl, rfl⟩
  | m + 1 => by
    rw [fmS]; split
    · exact Or.inr ⟨m, by omega, rfl, rfl⟩
    · rcases fm_inv (r := r) (n := n) (set := set) (pool := pool) m with h | ⟨b, h1, h2⟩
      · exact Or.inl h
      · exact Or.inr ⟨b, by omega, h2⟩
theorem m9_lt : (-9 : Int32) < 0 := by decide
theorem mo_fm {r : RR} {n : Nat} {inn : Int32} {S : Nat} (hS : S < 512) (hd : ∀ i, bt inn i = true → bt (nI S) i = false) : ∀ m, m ≤ 512 → moF r n inn (nI S) m = (fmS r n inn (nI S) m).1
  | 0, _ => rfl
  | m + 1, h => by
    have ih := mo_fm (r := r) (n := n) hS hd m (by omega)
    rw [moF, fmS, ih]
    by_cases q : nI m &&& (nI S ^^^ (-1)) = 0
    · have e : inn ||| nI m = inn ^^^ nI m := by
        apply bt_ext; intro i hi
        rw [bt_or, bt_xor]
        cases q1 : bt inn i with
        | false => simp
        | true =>
          cases q2 : bt (nI m) i with
          | false => rfl
          | true => have := sub_bt.1 q i hi q2; rw [hd i q1] at this; cases this
      have ec : ((fmS r n inn (nI S) m).1 < 0 ∨ cntN (nI m) 10 < cntN (fmS r n inn (nI S) m).1 10) ↔ cntN (nI m) 10 < (fmS r n inn (nI S) m).2 := by
        rcases fm_inv (r := r) (n := n) (set := inn) (pool := nI S) m with ⟨h1, h2⟩ | ⟨b, h1, h2, h3⟩
        · rw [h1, h2]
          have := cnt9 (m := m) (by omega)
          exact ⟨fun _ => by omega, fun _ => Or.inl m9_lt⟩
        · rw [h2, h3]
          exact ⟨fun z => z.resolve_left (nI_nn (by omega)), Or.inr⟩
      simp only [q, true_and, e, ec]
      split <;> rfl
    · simp only [q, false_and, if_false]
theorem more_eq {r : RR} {n : Nat} (hn : n ≤ 9) (w : Int32) : (fmS r n (nst r n w) (sad r n w) (2 ^ n)).1 = moF r n (nst r n w) (sad r n w) (tN (sad r n w) + 1) := by
  obtain ⟨S, hS, e⟩ := sad_natn hn w (r := r)
  have h2 := two_le hn
  have hd : ∀ i, bt (nst r n w) i = true → bt (nI S) i = false := by
    intro i hi
    rw [← e, bt_sad hn]
    rw [bt_nst hn] at hi
    simp only [Bool.and_eq_true, decide_eq_true_eq] at hi
    simp [hi.2.2]
  rw [e, tN_nI (by omega), mo_fm (by omega) hd _ (by omega)]
  have := fm_stab (r := r) (n := n) (set := nst r n w) (S := S) (by omega) (2 ^ n - (S + 1)) (by omega)
  rw [show S + 1 + (2 ^ n - (S + 1)) = 2 ^ n by omega] at this
  rw [this]
theorem xor_sub {S m : Nat} (q : nI m &&& (nI S ^^^ (-1)) = 0) : nI S ^^^ nI m = nI S &&& (nI m ^^^ (-1)) := by
  apply bt_ext; intro i hi
  rw [bt_xor, bt_and, bt_n _ hi]
  cases q2 : bt (nI m) i with
  | false => simp
  | true => rw [sub_bt.1 q i hi q2]; rfl
theorem li_fm {r : RR} {n S : Nat} (hS : S < 512) : ∀ m, m ≤ S → (((fmS r n (nI S) (nI S) m).2 = 10 ∧ liF r n (nI S) m = nI S) ∨ ((fmS r n (nI S) (nI S) m).1 = liF r n (nI S) m ∧ (fmS r n (nI S) (nI S) m).2 = cntN (liF r n (nI S) m) 10 ∧ cntN (liF r n (nI S) m) 10 < cntN (nI S) 10))
  | 0, _ => Or.inl ⟨rfl, rfl⟩
  | m + 1, h => by
    have ih := li_fm (r := r) (n := n) hS m (by omega)
    rw [liF, fmS]
    by_cases q : nI m &&& (nI S ^^^ (-1)) = 0
    · have hlt : cntN (nI m) 10 < cntN (nI S) 10 := cnt_lt 10 (fun i hi => sub_bt.1 q i (by omega)) (ne_bit (by omega) hS q (by omega))
      have h9 := cnt9 hS
      have e := xor_sub q
      simp only [q, true_and, e]
      rcases ih with ⟨h1, h2⟩ | ⟨h1, h2, h3⟩
      · rw [h1, h2]
        by_cases q3 : hld r n (nI S &&& (nI m ^^^ (-1))) = true
        · rw [if_pos ⟨by omega, q3⟩, if_pos ⟨hlt, q3⟩]; exact Or.inr ⟨rfl, rfl, hlt⟩
        · rw [if_neg (fun z => q3 z.2), if_neg (fun z => q3 z.2)]; exact Or.inl ⟨h1, rfl⟩
      · rw [h2]
        split
        · exact Or.inr ⟨rfl, rfl, hlt⟩
        · exact Or.inr ⟨h1, h2, h3⟩
    · simp only [q, false_and, if_false]; exact ih
theorem li_eq {r : RR} {n : Nat} (hn : n ≤ 9) (w : Int32) : (fmS r n (nst r n w) (nst r n w) (2 ^ n)).1 = liF r n (nst r n w) (tN (nst r n w) + 1) := by
  obtain ⟨S, hS, e⟩ := nst_natn hn w (r := r)
  have h2 := two_le hn
  rw [e, tN_nI (by omega)]
  have := fm_stab (r := r) (n := n) (set := nI S) (S := S) (by omega) (2 ^ n - (S + 1)) (by omega)
  rw [show S + 1 + (2 ^ n - (S + 1)) = 2 ^ n by omega] at this
  rw [this]
  have q : nI S &&& (nI S ^^^ (-1)) = 0 := sub_bt.2 (fun i _ h => h)
  have q0 : nI S ^^^ nI S = 0 := by apply bt_ext; intro i hi; rw [bt_xor, bt_0]; simp
  have h9 := cnt9 (m := S) (by omega)
  rw [liF, fmS, q0, hld_0]
  rcases li_fm (r := r) (n := n) (S := S) (by omega) S (Nat.le_refl _) with ⟨h1, h2⟩ | ⟨h1, h2, h3⟩
  · rw [h1, h2, if_pos ⟨q, by omega, rfl⟩, if_neg (fun z => by omega)]
  · rw [h2, if_neg (fun z => by omega), if_neg (fun z => by omega)]; exact h1
theorem so_stab {r : RR} {n S : Nat} (hS : S < 512) : ∀ k, S + 1 + k ≤ 512 → soF r n (nI S) (S + 1 + k) = soF r n (nI S) (S + 1)
  | 0, _ => rfl
  | k + 1, h => by
    rw [show S + 1 + (k + 1) = (S + 1 + k) + 1 by omega, soF, if_neg, so_stab hS k (by omega)]
    rintro ⟨q, _⟩
    have := sub_le (by omega) (by omega) q
    omega
theorem so_sh {r : RR} {n : Nat} {pool : Int32} : ∀ i, (shS r n pool i).1 = soF r n pool (i + 1) ∧ (shS r n pool i).2 = sumN r (soF r n pool (i + 1)) 1 n
  | 0 => by
    have e : soF r n pool 1 = 0 := by
      rw [soF, if_neg, soF]
      rintro ⟨_, q, _⟩
      exact q (by rw [soF, show nI 0 = 0 from rfl]; exact Int32.le_refl _)
    rw [e, sumN_0]; exact ⟨rfl, rfl⟩
  | i + 1 => by
    obtain ⟨h1, h2⟩ := so_sh (r := r) (n := n) (pool := pool) i
    rw [soF, shS, h2]
    simp only [Int32.not_le]
    split
    · exact ⟨rfl, rfl⟩
    · exact ⟨h1, h2⟩
theorem so_eq {r : RR} {n : Nat} (hn : n ≤ 9) (w : Int32) : (shS r n (nst r n w ||| sad r n w) (2 ^ n - 1)).1 = soF r n (nst r n w ||| sad r n w) (tN (nst r n w ||| sad r n w) + 1) := by
  obtain ⟨S, hS, e⟩ := all_natn hn w (r := r)
  have h2 := two_le hn
  rw [e, tN_nI (by omega), (so_sh _).1]
  have := so_stab (r := r) (n := n) (S := S) (by omega) (2 ^ n - (S + 1)) (by omega)
  rw [show S + 1 + (2 ^ n - (S + 1)) = 2 ^ n by omega] at this
  rw [show 2 ^ n - 1 + 1 = 2 ^ n by omega, this]
theorem sum_nn {n : Nat} {r : RR} (h : Inv n r) (set what : Int32) : ¬ sumN r set what n < 0 := by
  obtain ⟨x, hx, e⟩ := sumN_le h set what n (Nat.le_refl _)
  rw [e]; exact nI_nn (by have := h.le; omega)
theorem m1_lt {n : Nat} {r : RR} (h : Inv n r) (set what : Int32) : (-1 : Int32) < sumN r set what n := by
  obtain ⟨x, hx, e⟩ := sumN_le h set what n (Nat.le_refl _)
  rw [e, Int32.lt_iff_toInt_lt, nI_toInt (by have := h.le; omega), show (-1 : Int32).toInt = -1 from by decide]; omega
/-- what the class holds of a best one beside what the reference holds -/
def abJ (q : Int32 × Int32) (a b : Int32) : Prop := (a = -9 ∧ b = 0 ∧ q = (-9, -1)) ∨ (¬ a = -9 ∧ q = (a, b) ∧ ¬ b < 0)
theorem abJ.fst {q : Int32 × Int32} {a b : Int32} (h : abJ q a b) : a = q.1 := by
  rcases h with ⟨h1, _, h3⟩ | ⟨_, h2, _⟩
  · rw [h1, h3]
  · rw [h2]
theorem abJ.snd {q : Int32 × Int32} {a b : Int32} (h : abJ q a b) : b = if q.2 < 0 then 0 else q.2 := by
  rcases h with ⟨_, h2, h3⟩ | ⟨_, h2, h3⟩
  · rw [h2, h3]; rfl
  · rw [h2, if_neg h3]
theorem ab_yes {q : Int32 × Int32} {a b v : Int32} (h : abJ q a b) (hv : (-1 : Int32) < v) (c : a = -9 ∨ b < v) : q.2 < v := by
  rcases h with ⟨_, _, h3⟩ | ⟨h1, h2, _⟩
  · rw [h3]; exact hv
  · rw [h2]; exact c.resolve_left h1
theorem ab_no {q : Int32 × Int32} {a b v : Int32} (h : abJ q a b) (c : ¬ a = -9) (c2 : ¬ b < v) : ¬ q.2 < v := by
  rcases h with ⟨h1, _⟩ | ⟨_, h2, _⟩
  · exact absurd h1 c
  · rw [h2]; exact c2
theorem abJ.new {w : Nat} {v : Int32} (hw : w < 4) (hv : ¬ v < 0) : abJ (nI w, v) (nI w) v := Or.inr ⟨fun h => nI_ne9 (by omega) h.symm, rfl, hv⟩
theorem kn_0 (r : RR) (n : Nat) : (knF r n 1).1 = nI 0 ∧ (knF r n 1).2 = nI (cntN (nst r n (nI 0) ||| sad r n (nI 0)) 10) := by
  rw [knF]; split
  · exact ⟨rfl, rfl⟩
  · rename_i h
    refine ⟨rfl, ?_⟩
    rw [knF] at h ⊢
    have hc := cntN_le (nst r n (nI 0) ||| sad r n (nI 0)) 10
    rw [Int32.lt_iff_toInt_lt, nI_toInt (by omega)] at h
    have h0 : (0 : Int32).toInt = 0 := rfl
    have : cntN (nst r n (nI 0) ||| sad r n (nI 0)) 10 = 0 := by
      have h2 : ((0 : Int32), (0 : Int32)).2.toInt = 0 := rfl
      omega
    rw [this]; rfl

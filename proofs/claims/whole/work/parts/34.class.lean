/-! ===== the class's own object beside the reference's state ===== -/
def CR (g : GG) (tn tp : TK) : Prop := (Rep g.n g.r tn ∧ tn.lo = 0 ∧ tn.uw = 0) ∧ (g.hs = 1 → Rep g.m g.im tp ∧ tp.lo = 0 ∧ tp.uw = 0)
abbrev CS : Type := GG × TK × TK × TK × RR
theorem ins_at {n : Nat} {r : RR} {u : TK} (h : Rep n r u) {p : Int32} {t : Nat} (hp : p = nI t) (ht : t < n) : (u.ins >>> (p &&& 31)) &&& 1 = r (oF t 4) := by
  subst hp
  have hn := h.le
  rw [hx_val _ (by omega), h.hins, bt_inS hn]
  rcases h.inv.in01 ht with e | e <;> rw [e] <;> simp [ht]
theorem ltn_i {n : Nat} {r : RR} {u : TK} (h : Rep n r u) {t : Nat} (ht : t < n) : (if bt (u.ins ^^^ b1 t) t = true then (1 : Int32) else 0) = r (oF t 4) ^^^ 1 := by
  have hn := h.le
  rw [bt_xor, h.hins, bt_inS hn, bt_b1 (by omega)]
  rcases h.inv.in01 ht with e | e <;> rw [e] <;> simp [ht]
theorem i32_le {p x y : Int32} (h : p < y) (e : y.toInt = x.toInt + 1) : p ≤ x := by
  rw [Int32.lt_iff_toInt_lt] at h; rw [Int32.le_iff_toInt_le]; omega
theorem i32_ge {p x y : Int32} (h : x < p) (e : y.toInt = x.toInt + 1) : y ≤ p := by
  rw [Int32.lt_iff_toInt_lt] at h; rw [Int32.le_iff_toInt_le]; omega
theorem tN_0 : tN 0 = 0 := by decide
theorem tN_1 : tN 1 = 1 := by decide
theorem tN_2 : tN 2 = 2 := by decide
theorem tN_3 : tN 3 = 3 := by decide
theorem tN_4 : tN 4 = 4 := by decide
theorem tN_5 : tN 5 = 5 := by decide
theorem tN_6 : tN 6 = 6 := by decide
theorem tN_7 : tN 7 = 7 := by decide
theorem isI_n04 {w : Int32} (h0 : ¬ w = 0) (h1 : ¬ w = 1) (h2 : ¬ w = 2) (h3 : ¬ w = 3) (h4 : ¬ w = 4) : isI w 0 4 = false := by
  cases q : isI w 0 4 with
  | false => rfl
  | true =>
    exfalso
    obtain ⟨k, _, hk, e⟩ := isI_nat (lo := 0) (hi := 4) (a := 0) (b := 4) rfl rfl (by decide) (by decide) q
    have : k = 0 ∨ k = 1 ∨ k = 2 ∨ k = 3 ∨ k = 4 := by omega
    rcases this with rfl | rfl | rfl | rfl | rfl
    · exact h0 e
    · exact h1 e
    · exact h2 e
    · exact h3 e
    · exact h4 e
theorem isI_n57 {w : Int32} (h0 : ¬ w = 5) (h1 : ¬ w = 6) (h2 : ¬ w = 7) : isI w 5 7 = false := by
  cases q : isI w 5 7 with
  | false => rfl
  | true =>
    exfalso
    obtain ⟨k, _, hk, e⟩ := isI_nat (lo := 5) (hi := 7) (a := 5) (b := 7) rfl rfl (by decide) (by decide) q
    have : k = 5 ∨ k = 6 ∨ k = 7 := by omega
    rcases this with rfl | rfl | rfl
    · exact h0 e
    · exact h1 e
    · exact h2 e
theorem isI_lo {p lo hi x : Int32} (h : p ≤ x) (e : x.toInt < lo.toInt) : isI p lo hi = false := by
  rw [isI, decide_eq_false_iff_not]
  rw [Int32.le_iff_toInt_le] at h
  rintro ⟨q, _⟩
  rw [Int32.le_iff_toInt_le] at q; omega
theorem isI_hi {p lo hi : Int32} (h : hi < p) : isI p lo hi = false := by
  rw [isI, decide_eq_false_iff_not]
  rintro ⟨_, q⟩
  exact absurd h (Int32.not_lt.2 q)
theorem isI_neg {p lo hi : Int32} (h : p < lo) : isI p lo hi = false := by
  rw [isI, decide_eq_false_iff_not]
  rintro ⟨q, _⟩
  exact absurd h (Int32.not_lt.2 q)
theorem max_0 (x : Int32) : (if 0 < x then x else 0) = if x < 0 then 0 else x := by
  split
  · rename_i h
    rw [if_neg (by rw [Int32.lt_iff_toInt_lt] at *; omega)]
  · rename_i h
    split
    · rfl
    · rename_i h2
      apply Int32.toInt_inj.mp
      rw [Int32.lt_iff_toInt_lt] at h h2
      have : (0 : Int32).toInt = 0 := rfl
      omega
theorem bc_nst {r : RR} {n : Nat} (hn : n ≤ 9) (w : Int32) : bcF (nst r n w) = nI (cntN (nst r n w) 10) := by
  obtain ⟨S, hS, e⟩ := nst_nat hn w (r := r)
  rw [e]; exact bcF_small S (by omega)
theorem all_or {r : RR} {n : Nat} (hn : n ≤ 9) (hI : Inv n r) (w : Int32) : abS r n w = nst r n w ||| sad r n w := by
  apply bt_ext; intro i hi
  rw [bt_or, bt_abS hn, bt_nst hn, bt_sad hn]
  by_cases q : i < n
  · rcases hI.in01 q with e | e <;> rw [e] <;> simp [q]
  · simp [q]
theorem bc_all {r : RR} {n : Nat} (hn : n ≤ 9) (w : Int32) : bcF (nst r n w ||| sad r n w) = nI (cntN (nst r n w ||| sad r n w) 10) := by
  obtain ⟨S, hS, e⟩ := all_nat hn w (r := r)
  rw [e]; exact bcF_small S (by omega)
theorem inS_nat {r : RR} {n : Nat} (hn : n ≤ 9) : ∃ S : Nat, S < 512 ∧ inS r n = nI S := by
  obtain ⟨m, hm, e⟩ := small_of_bt (x := inS r n) (n := 9) (by omega) (fun i h1 h2 => by rw [bt_inS hn]; have : ¬ i < n := by omega
                                                                                         simp [this])
  exact ⟨m, by omega, e⟩
theorem bc_inS {r : RR} {n : Nat} (hn : n ≤ 9) : bcF (inS r n) = nI (cntN (inS r n) 10) := by
  obtain ⟨S, hS, e⟩ := inS_nat hn (r := r)
  rw [e]; exact bcF_small S (by omega)

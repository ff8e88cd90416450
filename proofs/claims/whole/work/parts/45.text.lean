/-! ===== how letters are read as a close: the class's way ===== -/
def atF (lt : RR) (L p : Nat) : Int32 := if p < L then lt p else -9
theorem at_hr {lt : RR} {L p : Nat} (h : p < L) : atF lt L p = hrF lt L p := by rw [atF, hrF, if_pos h, if_pos h]
def lnN (c : Int32) : Nat := if c = 115 then 5 else if c = 119 ∨ c = 97 ∨ c = 100 then 4 else if c = 116 ∨ c = 98 then 3 else 0
def ftB (x hd : Int32) (j : Nat) : Bool := if j = 0 then decide (0 < lnN x) else if j + 1 = lnN hd then decide (x = 59) else if hd = 115 ∧ j = 1 then decide (¬ kndOf x = -9) else isI x 48 57
theorem lnN_le (c : Int32) : lnN c ≤ 5 := by unfold lnN; (repeat' split) <;> omega
theorem eq_len {p r : Int32} {t m : Nat} (hp : p = nI t) (hr : r = nI m) (ht : t ≤ 1000) (hm : m ≤ 5) : p = r - 1 ↔ t + 1 = m := by
  subst hp; subst hr
  rw [← Int32.toInt_inj, nI_toInt (by omega), Int32.toInt_sub, nI_toInt (by omega), show (1 : Int32).toInt = 1 from rfl, Int.bmod_eq_of_le (by omega) (by omega)]; omega
theorem ft_1 {x hd : Int32} {j : Nat} (h9 : ¬ j = 0) (h7 : j + 1 = lnN hd) : ftB x hd j = decide (x = 59) := by rw [ftB, if_neg h9, if_pos h7]
theorem ft_2 {x hd : Int32} {j : Nat} (h9 : ¬ j = 0) (h7 : ¬ j + 1 = lnN hd) (h : hd = 115 ∧ j = 1) : ftB x hd j = decide (¬ kndOf x = -9) := by rw [ftB, if_neg h9, if_neg h7, if_pos h]
theorem ft_3 {x hd : Int32} {j : Nat} (h9 : ¬ j = 0) (h7 : ¬ j + 1 = lnN hd) (h : ¬ (hd = 115 ∧ j = 1)) : ftB x hd j = isI x 48 57 := by rw [ftB, if_neg h9, if_neg h7, if_neg h]

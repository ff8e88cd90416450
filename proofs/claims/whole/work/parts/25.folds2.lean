/-! ===== the reference's weighing of what had better be done ===== -/
/-- one more truth of a figure 5, if it is told and there is room -/
def ad1 (q : RR × Nat) (x w : Int32) : RR × Nat := if x = 1 ∧ q.2 < 9 then (addR q.1 q.2 4 5 w, q.2 + 1) else q
def sfQ (r : RR) (n : Nat) (a x b y : Int32) : RR × Nat := ad1 (ad1 (r, n) x b) y a
def sfV (r : RR) (n K : Nat) (who oth a x b y : Int32) : Int32 :=
  sumN (dsR (sfQ r n a x b y).1 (sfQ r n a x b y).2 K) (nst (dsR (sfQ r n a x b y).1 (sfQ r n a x b y).2 K) (sfQ r n a x b y).2 who) 1 (sfQ r n a x b y).2 -
  sumN (dsR (sfQ r n a x b y).1 (sfQ r n a x b y).2 K) (nst (dsR (sfQ r n a x b y).1 (sfQ r n a x b y).2 K) (sfQ r n a x b y).2 oth) 1 (sfQ r n a x b y).2
def twX (k : Nat) : Int32 := nI k / 2
def twY (k : Nat) : Int32 := nI k - nI k / 2 * 2
def twP (r : RR) (n K : Nat) (a b : Int32) : Nat → Bool := fun k => decide (sfV r n K a b a (1 - twX k) b (twY k) ≤ sfV r n K a b a (twX k) b (twY k) ∧ sfV r n K b a a (twX k) b (1 - twY k) ≤ sfV r n K b a a (twX k) b (twY k))
def sp_two (g : GG) (a b k : Int32) : Int32 × GG := if womB a = false ∨ womB b = false ∨ a = b then rfz g (-1) else if ¬ wrB k 0 30 = 0 then rfz g (wrB k 0 30) else ((if ff (twP g.r g.n (tN k) a b) 4 < 4 then 10 * twX (ff (twP g.r g.n (tN k) a b) 4) + twY (ff (twP g.r g.n (tN k) a b) 4) else -9), g)

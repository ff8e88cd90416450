/-! ===== what there is of a talk whole: sayings, the image, letters, the row, refusals; and the answers ===== -/
abbrev GG : Type := Nat × RR × Nat × RR × Int32 × RR × Nat × RR × Nat × RR
abbrev GG.n (g : GG) : Nat := g.1
abbrev GG.r (g : GG) : RR := g.2.1
abbrev GG.m (g : GG) : Nat := g.2.2.1
abbrev GG.im (g : GG) : RR := g.2.2.2.1
abbrev GG.hs (g : GG) : Int32 := g.2.2.2.2.1
abbrev GG.lt (g : GG) : RR := g.2.2.2.2.2.1
abbrev GG.L (g : GG) : Nat := g.2.2.2.2.2.2.1
abbrev GG.rw (g : GG) : RR := g.2.2.2.2.2.2.2.1
abbrev GG.M (g : GG) : Nat := g.2.2.2.2.2.2.2.2.1
abbrev GG.rf (g : GG) : RR := g.2.2.2.2.2.2.2.2.2
/-- what the reference scribbles on -/
abbrev MS : Type := RR × RR × RR × Int32 × Int32
abbrev MS.m (s : MS) : RR := s.1
abbrev MS.ws (s : MS) : RR := s.2.1
abbrev MS.nb (s : MS) : RR := s.2.2.1
abbrev MS.pl (s : MS) : Int32 := s.2.2.2.1
abbrev MS.sd (s : MS) : Int32 := s.2.2.2.2
def Whole (n : Nat) (r : RR) : Prop := Inv n r ∧ r 3 = -9 ∧ Abt n r
def Good (g : GG) : Prop := Whole g.n g.r ∧ (g.hs = 0 ∨ g.hs = 1) ∧ (g.hs = 1 → Whole g.m g.im) ∧ g.L ≤ 96 ∧ g.M ≤ 16
theorem Good.inv {g : GG} (h : Good g) : Inv g.n g.r := h.1.1
theorem Good.k3 {g : GG} (h : Good g) : g.r 3 = -9 := h.1.2.1
theorem Good.abt {g : GG} (h : Good g) : Abt g.n g.r := h.1.2.2
theorem Good.le {g : GG} (h : Good g) : g.n ≤ 9 := h.1.1.le
theorem Good.hs01 {g : GG} (h : Good g) : g.hs = 0 ∨ g.hs = 1 := h.2.1
theorem Good.img {g : GG} (h : Good g) : g.hs = 1 → Whole g.m g.im := h.2.2.1
theorem Good.L96 {g : GG} (h : Good g) : g.L ≤ 96 := h.2.2.2.1
theorem Good.M16 {g : GG} (h : Good g) : g.M ≤ 16 := h.2.2.2.2
def tN (p : Int32) : Nat := p.toNatClampNeg
theorem tN_nI {t : Nat} (h : t < 2147483648) : tN (nI t) = t := nI_clamp (by omega)
def cN (p : Int32) : Nat := (-p).toNatClampNeg
/-- the numbers of refusals -/
def okc (p : Int32) : Prop := p = -1 ∨ p = -2 ∨ p = -3 ∨ p = -4 ∨ p = -6
theorem okc_nat {p : Int32} (h : okc p) : -p = nI (cN p) ∧ cN p < 7 ∧ p < 0 := by
  rcases h with rfl | rfl | rfl | rfl | rfl <;> exact ⟨by decide, by decide, by decide⟩
theorem okc_1 : okc (-1) := Or.inl rfl
theorem okc_2 : okc (-2) := Or.inr (Or.inl rfl)
theorem okc_3 : okc (-3) := Or.inr (Or.inr (Or.inl rfl))
theorem okc_4 : okc (-4) := Or.inr (Or.inr (Or.inr (Or.inl rfl)))
theorem okc_6 : okc (-6) := Or.inr (Or.inr (Or.inr (Or.inr rfl)))
def wrB (v lo hi : Int32) : Int32 := if v < lo then -4 else if hi < v then -6 else 0
theorem okc_wr {v lo hi : Int32} (h : ¬ wrB v lo hi = 0) : okc (wrB v lo hi) := by
  unfold wrB at h ⊢
  split
  · exact okc_4
  · rename_i q
    rw [if_neg q] at h
    split
    · exact okc_6
    · rename_i q2
      rw [if_neg q2] at h; exact absurd rfl h
def isI (v lo hi : Int32) : Bool := decide (lo ≤ v ∧ v ≤ hi)
theorem isI_nat {v lo hi : Int32} {a b : Nat} (ha : lo = nI a) (hb : hi = nI b) (ha2 : a < 2147483648) (hb2 : b < 2147483648) (h : isI v lo hi = true) : ∃ k, a ≤ k ∧ k ≤ b ∧ v = nI k := by
  subst ha; subst hb
  rw [isI, decide_eq_true_eq] at h
  obtain ⟨h1, h2⟩ := h
  rw [Int32.le_iff_toInt_le, nI_toInt (by omega)] at h1
  rw [Int32.le_iff_toInt_le, nI_toInt (by omega)] at h2
  exact ⟨v.toInt.toNat, by omega, by omega, Int32.toInt_inj.mp (by rw [nI_toInt (by omega)]; omega)⟩
/-- the answer of a refusal, and its count -/
def rfz (g : GG) (c : Int32) : Int32 × GG := (c, (g.n, g.r, g.m, g.im, g.hs, g.lt, g.L, g.rw, g.M, upd g.rf (cN c) (g.rf (cN c) + 1)))
abbrev GG.setR (g : GG) (n : Nat) (r : RR) : GG := (n, r, g.m, g.im, g.hs, g.lt, g.L, g.rw, g.M, g.rf)
def lackF (r : RR) (n : Nat) (set : Int32) : Int32 := if sumN r set 3 n - sumN r set 2 n < 0 then 0 else sumN r set 3 n - sumN r set 2 n
def sp_letter (g : GG) (c : Int32) : Int32 × GG := if c < 0 then rfz g (-4) else if 255 < c ∨ g.L = 96 then rfz g (-6) else (nI (g.L + 1), (g.n, g.r, g.m, g.im, g.hs, upd g.lt g.L c, g.L + 1, g.rw, g.M, g.rf))
def sp_saying (g : GG) (p w : Int32) : Int32 × GG := if sayB g.n p = false then rfz g (-1) else if isI w 0 4 = true then (g.r (oF (tN p) (tN w)), g) else if isI w 5 7 = true then (sumN g.r ((1 : Int32) <<< (p &&& 31)) (w - 4) g.n, g) else rfz g (-2)
def sp_nest (g : GG) (p w : Int32) : Int32 × GG := if womB p = false then rfz g (-1) else if w = 0 then (nst g.r g.n p, g) else if w = 1 ∨ w = 2 ∨ w = 3 then (sumN g.r (nst g.r g.n p) w g.n, g) else if w = 4 then ((if hld g.r g.n (nst g.r g.n p) = true then 1 else 0), g) else if w = 5 then (lackF g.r g.n (nst g.r g.n p), g) else rfz g (-2)
def sp_takes (g : GG) (p : Int32) : Int32 × GG := if sayB g.n p = false then rfz g (-1) else (g.r (oF (tN p) 4) ^^^ 1, g.setR g.n (upd g.r (oF (tN p) 4) (g.r (oF (tN p) 4) ^^^ 1)))
def sp_wears (g : GG) (p v : Int32) : Int32 × GG := if sayB g.n p = false then rfz g (-1) else if ¬ wrB v 0 9 = 0 then rfz g (wrB v 0 9) else (g.r (oF (tN p) 3), g.setR g.n (upd g.r (oF (tN p) 3) v))
def sp_concerns (g : GG) (p w : Int32) : Int32 × GG := if sayB g.n p = false ∨ womB w = false then rfz g (-1) else (g.r (oF (tN p) 2), g.setR g.n (setAb g.r (tN p) w))
def sp_boy (g : GG) (w : Int32) : Int32 × GG := if womB w = false then rfz g (-1) else if nst g.r g.n w = 0 then rfz g (-3) else (nI (cntN (nst g.r g.n w) 10), g.setR g.n (fall g.r g.n w))
def sp_turn (g : GG) (p k f : Int32) : Int32 × GG := if sayB g.n p = false then rfz g (-1) else if isI k 0 5 = false then rfz g (-2) else if ¬ wrB f 0 9 = 0 then rfz g (wrB f 0 9) else (10 * g.r (oF (tN p) 0) + g.r (oF (tN p) 1), g.setR g.n (upd (upd g.r (oF (tN p) 0) k) (oF (tN p) 1) f))
def sp_days (g : GG) (k : Int32) : Int32 × GG := if ¬ 1 ≤ k then rfz g (-4) else if 60 < k ∨ ¬ g.r 1 + k ≤ 999 then rfz g (-6) else (dsR g.r g.n (tN k) 2, g.setR g.n (dsR g.r g.n (tN k)))
theorem cnt_nst {r : RR} {n : Nat} (hn : n ≤ 9) (w : Int32) : cntN (nst r n w) 10 = 0 ↔ nst r n w = 0 := by
  rw [cntN_0]
  constructor
  · intro h
    apply bt_ext; intro i hi; rw [bt_0]
    by_cases q : i < 10
    · exact h i q
    · rw [bt_nst hn]; have : ¬ i < n := by omega
      simp [this]
  · intro h i _; rw [h, bt_0]
theorem sayB_ite {n : Nat} (hn : n ≤ 9) {x p : Int32} (hx : x = nI n) : (if 0 ≤ p ∧ p ≤ x - 1 then (1 : Int32) else 0) = if sayB n p = true then 1 else 0 := by
  simp only [sayB_in hn hx]
theorem isI_ite {v lo hi : Int32} : (if lo ≤ v ∧ v ≤ hi then (1 : Int32) else 0) = if isI v lo hi = true then 1 else 0 := by
  simp only [isI, decide_eq_true_eq]
theorem wrB_nat {v lo hi : Int32} {a b : Nat} (ha : lo = nI a) (hb : hi = nI b) (ha2 : a < 2147483648) (hb2 : b < 2147483648) (h : wrB v lo hi = 0) : ∃ k, a ≤ k ∧ k ≤ b ∧ v = nI k := by
  unfold wrB at h
  split at h
  · exact absurd h (by decide)
  · rename_i q1
    split at h
    · exact absurd h (by decide)
    · rename_i q2
      exact isI_nat ha hb ha2 hb2 (by rw [isI, decide_eq_true_eq]; exact ⟨Int32.not_lt.1 q1, Int32.not_lt.1 q2⟩)
theorem okc_of {r v lo hi : Int32} (hr : r = wrB v lo hi) (c : ¬ r = 0) : okc r := by
  rw [hr] at c ⊢; exact okc_wr c
theorem day_nat {k : Int32} (h1 : 1 ≤ k) (h2 : ¬ 60 < k) : ∃ d, 1 ≤ d ∧ d ≤ 60 ∧ k = nI d :=
  isI_nat (a := 1) (b := 60) (lo := 1) (hi := 60) rfl rfl (by decide) (by decide) (by rw [isI, decide_eq_true_eq]; exact ⟨h1, Int32.not_lt.1 h2⟩)
def sp_row (g : GG) (v : Int32) : Int32 × GG := if ¬ wrB v 0 99 = 0 then rfz g (wrB v 0 99) else if g.M = 16 then rfz g (-6) else (nI (g.M + 1), (g.n, g.r, g.m, g.im, g.hs, g.lt, g.L, upd g.rw g.M v, g.M + 1, g.rf))
def sp_clear (g : GG) : Int32 × GG := (nI g.M, (g.n, g.r, g.m, g.im, g.hs, g.lt, g.L, g.rw, 0, g.rf))
def sp_image (g : GG) : Int32 × GG := (g.r 1, (g.n, g.r, g.n, g.r, 1, g.lt, g.L, g.rw, g.M, g.rf))
def sp_on (g : GG) : Int32 × GG := if g.hs = 0 then rfz g (-3) else (g.im 1, (g.m, g.im, g.m, g.im, g.hs, g.lt, g.L, g.rw, g.M, g.rf))

def sp_count (g : GG) (w : Int32) : Int32 × GG := if isI w 11 16 = true then (g.rf (tN w - 10), g) else if w = 0 then (g.r 0, g) else if w = 1 then (g.r 1, g) else if w = 2 then (g.r 2, g) else if w = 3 then (inS g.r g.n, g) else if w = 4 then (sumN g.r (inS g.r g.n) 1 g.n, g) else if w = 5 then (wrnN g.r g.n, g) else if w = 6 then (nI g.M, g) else if w = 7 then (nI g.L, g) else (-9, g)
def sp_nestThen (g : GG) (p k w : Int32) : Int32 × GG := if womB p = false then rfz g (-1) else if ¬ wrB k 0 60 = 0 then rfz g (wrB k 0 60) else if isI w 0 3 = false then rfz g (-2) else if w = 0 then (nst (dsR g.r g.n (tN k)) g.n p, g) else (sumN (dsR g.r g.n (tN k)) (nst (dsR g.r g.n (tN k)) g.n p) w g.n, g)
def sp_robbedThen (g : GG) (k : Int32) : Int32 × GG := if ¬ wrB k 0 60 = 0 then rfz g (wrB k 0 60) else (dsR g.r g.n (tN k) 2, g)
/-- on which day a nest of some women falls first -/
def whP (r : RR) (n : Nat) (ws : Int32) : Nat → Bool := fun j => !decide (dayS (dsR r n j) n &&& ws = 0)
def whF (r : RR) (n : Nat) (ws : Int32) : Int32 := if ff (whP r n ws) 60 < 60 then nI (ff (whP r n ws) 60 + 1) else -9
def stP (r : RR) (n : Nat) : Nat → Bool := fun j => decide (inS (dsR r n (j + 1)) n = inS (dsR r n j) n)
def stF (r : RR) (n : Nat) : Int32 := if ff (stP r n) 61 < 61 then nI (ff (stP r n) 61) else -9
def sp_falls (g : GG) (p : Int32) : Int32 × GG := if womB p = false then rfz g (-1) else (whF g.r g.n ((1 : Int32) <<< (p &&& 31)), g)
def fsP (r : RR) (n : Nat) (k : Int32) : Nat → Bool := fun w => decide (whF r n (b1 w) = k)
def sp_first (g : GG) (w : Int32) : Int32 × GG := if isI w 0 2 = false then rfz g (-2) else if w = 2 then (stF g.r g.n, g) else if whF g.r g.n 15 < 0 ∨ w = 1 then (whF g.r g.n 15, g) else ((if ff (fsP g.r g.n (whF g.r g.n 15)) 4 < 4 then nI (ff (fsP g.r g.n (whF g.r g.n 15)) 4) else -9), g)
def cuP (R : RR) (n : Nat) : Nat → Bool := fun w => decide (20 ≤ sumN R (nst R n (nI w)) 1 n)
def cuQ (r : RR) (n : Nat) : Nat → Bool := fun j => decide (ff (cuP (dsR r n j) n) 4 < 4)
def sp_cushion (g : GG) (w : Int32) : Int32 × GG := if isI w 0 1 = false then rfz g (-2) else ((if ff (cuQ g.r g.n) 61 < 61 then (if w = 0 then nI (ff (cuQ g.r g.n) 61) else nI (ff (cuP (dsR g.r g.n (ff (cuQ g.r g.n) 61)) g.n) 4)) else -9), g)

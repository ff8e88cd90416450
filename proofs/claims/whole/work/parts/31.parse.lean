/-! ===== how letters are read as a close: the reference's way ===== -/
def hrF (lt : RR) (L p : Nat) : Int32 := if p < L then lt p else -1
def ndB (lt : RR) (L p : Nat) : Nat → Bool := fun j => !isI (hrF lt L (p + j)) 48 57
def numN (lt : RR) (L k : Nat) (nb : RR) (p : Nat) : Nat → RR
  | 0 => upd nb k 0
  | i + 1 => upd (numN lt L k nb p i) k (10 * numN lt L k nb p i k + hrF lt L (p + i) - 48)
theorem numN_o (lt : RR) (L k : Nat) (nb : RR) (p : Nat) {j : Nat} (h : ¬ j = k) : ∀ i, numN lt L k nb p i j = nb j
  | 0 => un h
  | i + 1 => by rw [numN, un h]; exact numN_o lt L k nb p h i
theorem numN_1 (lt : RR) (L k : Nat) (nb : RR) (p : Nat) : numN lt L k nb p 1 k = hrF lt L p - 48 := by
  simp [numN, us]
theorem numN_2 (lt : RR) (L k : Nat) (nb : RR) (p : Nat) : numN lt L k nb p 2 k = 10 * (hrF lt L p - 48) + hrF lt L (p + 1) - 48 := by
  simp [numN, us]
/-- what is read from place p on: whether it is a statement, and the place behind it or of the fault -/
def rsF (h : Nat → Int32) (p : Nat) : Bool × Nat :=
  if h p = 115 then (if kndOf (h (p + 1)) < 0 then (false, p + 1) else if isI (h (p + 2)) 48 57 = false then (false, p + 2) else if isI (h (p + 3)) 48 57 = false then (false, p + 3) else if h (p + 4) = 59 then (true, p + 5) else (false, p + 4))
  else if h p = 116 ∨ h p = 98 then (if isI (h (p + 1)) 48 57 = false then (false, p + 1) else if h (p + 2) = 59 then (true, p + 3) else (false, p + 2))
  else if h p = 119 ∨ h p = 97 ∨ h p = 100 then (if isI (h (p + 1)) 48 57 = false then (false, p + 1) else if isI (h (p + 2)) 48 57 = false then (false, p + 2) else if h (p + 3) = 59 then (true, p + 4) else (false, p + 3))
  else (false, p)
def nbA (h : Nat → Int32) (p : Nat) : Int32 := if h p = 115 then kndOf (h (p + 1)) else if h p = 100 then 10 * (h (p + 1) - 48) + h (p + 2) - 48 else h (p + 1) - 48
def nbB (h : Nat → Int32) (p : Nat) : Int32 := h (p + 2) - 48
def nbC (h : Nat → Int32) (p : Nat) : Int32 := h (p + 3) - 48
def nbO (h : Nat → Int32) (p : Nat) (nb : RR) : Prop := nb 0 = nbA h p ∧ (h p = 115 ∨ h p = 119 ∨ h p = 97 → nb 1 = nbB h p) ∧ (h p = 115 → nb 2 = nbC h p)
def dnF (n : Nat) (r : RR) (c a b w : Int32) : Bool × Nat × RR :=
  if c = 115 then (if womB w = true ∧ n < 9 then (true, n + 1, addR r n a b w) else (false, n, r))
  else if c = 116 then (if sayB n a = true then (true, n, upd r (oF (tN a) 4) (r (oF (tN a) 4) ^^^ 1)) else (false, n, r))
  else if c = 119 then (if sayB n a = true then (true, n, upd r (oF (tN a) 3) b) else (false, n, r))
  else if c = 97 then (if sayB n a = true ∧ womB b = true then (true, n, setAb r (tN a) b) else (false, n, r))
  else if c = 98 then (if womB a = true then (true, n, fall r n a) else (false, n, r))
  else if isI a 1 60 = true ∧ r 1 + a ≤ 999 then (true, n, dsR r n (tN a)) else (false, n, r)
theorem hrF_ge {lt : RR} {L p : Nat} (h : L ≤ p) : hrF lt L p = -1 := if_neg (by omega)
theorem rsF_le (lt : RR) (L p : Nat) (h : (rsF (hrF lt L) p).1 = true) : p + 3 ≤ (rsF (hrF lt L) p).2 ∧ (rsF (hrF lt L) p).2 ≤ L := by
  have hh : ∀ q, hrF lt L q = 59 → q < L := by
    intro q hq
    by_cases c : q < L
    · exact c
    · rw [hrF_ge (by omega)] at hq; exact absurd hq (by decide)
  generalize hq : rsF (hrF lt L) p = q at h ⊢
  unfold rsF at hq
  repeat' (split at hq)
  all_goals subst hq
  all_goals first
    | exact absurd h Bool.false_ne_true
    | (rename_i z; have := hh _ z; refine ⟨?_, ?_⟩ <;> dsimp only <;> omega)
theorem rsF_le2 (h : Nat → Int32) (p : Nat) : p ≤ (rsF h p).2 ∧ (rsF h p).2 ≤ p + 5 := by
  unfold rsF
  repeat' split
  all_goals (constructor <;> simp only [] <;> omega)
theorem dig_nat {x : Int32} (h : isI x 48 57 = true) : ∃ d, d < 10 ∧ x - 48 = nI d := by
  obtain ⟨k, h1, h2, e⟩ := isI_nat (lo := 48) (hi := 57) (a := 48) (b := 57) rfl rfl (by decide) (by decide) h
  exact ⟨k - 48, by omega, ni_sub (a := k) (b := 48) rfl e rfl (by omega)⟩
theorem knd_nat {x : Int32} (h : ¬ kndOf x < 0) : ∃ k, k < 6 ∧ kndOf x = nI k := by
  revert h; unfold kndOf
  repeat' split
  · exact fun _ => ⟨0, by omega, rfl⟩
  · exact fun _ => ⟨1, by omega, rfl⟩
  · exact fun _ => ⟨2, by omega, rfl⟩
  · exact fun _ => ⟨3, by omega, rfl⟩
  · exact fun _ => ⟨4, by omega, rfl⟩
  · exact fun _ => ⟨5, by omega, rfl⟩
  · intro h; exact absurd (by decide) h
theorem rsF_A {h : Nat → Int32} {p : Nat} (hs : (rsF h p).1 = true) (c : h p = 115) : ∃ k, k < 6 ∧ nbA h p = nI k := by
  rw [rsF, if_pos c] at hs
  split at hs
  · exact absurd hs Bool.false_ne_true
  · rename_i q; rw [nbA, if_pos c]; exact knd_nat q
theorem rsF_B {h : Nat → Int32} {p : Nat} (hs : (rsF h p).1 = true) (c : h p = 115 ∨ h p = 119) : ∃ k, k < 10 ∧ nbB h p = nI k := by
  rw [nbB]
  apply dig_nat
  cases q : isI (h (p + 2)) 48 57 with
  | true => rfl
  | false =>
    exfalso; revert hs
    rcases c with c | c <;> simp [rsF, c, q] <;> (repeat' split) <;> simp
theorem Inv.idn {n : Nat} {r : RR} (hI : Inv n r) {c a b w : Int32} (ha : c = 115 → ∃ k, k < 6 ∧ a = nI k) (hb : c = 115 ∨ c = 119 → ∃ k, k < 10 ∧ b = nI k) : Inv (dnF n r c a b w).2.1 (dnF n r c a b w).2.2 := by
  unfold dnF
  split
  · rename_i c1
    split
    · rename_i q
      obtain ⟨k, hk, rfl⟩ := ha c1
      obtain ⟨f, hf, rfl⟩ := hb (Or.inl c1)
      obtain ⟨x, hx, rfl⟩ := womB_iff.1 q.1
      exact hI.iaddN q.2 hk hf (okv_2 hx rfl)
    · exact hI
  split
  · split
    · rename_i q
      obtain ⟨t, ht, rfl⟩ := (sayB_iff hI.le).1 q
      rw [tN_nI (by have := hI.le; omega)]
      refine hI.uo _ (by omega) ?_
      rcases hI.in01 ht with e | e <;> rw [e]
      · exact okv_4_1
      · exact okv_4_0
    · exact hI
  split
  · rename_i c1
    split
    · obtain ⟨f, hf, rfl⟩ := hb (Or.inr c1)
      exact hI.uo _ (by omega) (okv_3 hf rfl)
    · exact hI
  split
  · split
    · rename_i q
      obtain ⟨x, hx, rfl⟩ := womB_iff.1 q.2
      exact hI.isetAb _ (okv_2 hx rfl)
    · exact hI
  split
  · split
    · exact hI.ifall _
    · exact hI
  split
  · exact hI.idsR _
  · exact hI
theorem dnF_nb {n : Nat} {r : RR} {h : Nat → Int32} {p : Nat} {nb : RR} (q : nbO h p nb) : dnF n r (h p) (nb 0) (nb 1) (nb 2) = dnF n r (h p) (nbA h p) (nbB h p) (nbC h p) := by
  obtain ⟨q1, q2, q3⟩ := q
  unfold dnF
  rw [q1]
  split
  · rename_i c; rw [q2 (Or.inl c), q3 c]
  split
  · rfl
  split
  · rename_i c; rw [q2 (Or.inr (Or.inl c))]
  split
  · rename_i c; rw [q2 (Or.inr (Or.inr c))]
  rfl
def rdA (h : Nat → Int32) (L : Nat) : Nat → Nat → Nat → Int32 × Nat
  | 0, _, m => (-9, m)
  | fu + 1, p, m => if (rsF h p).1 = false then (-1000 - nI (rsF h p).2, m + 1) else if (rsF h p).2 < L then rdA h L fu (rsF h p).2 (m + 1) else (-9, m + 1)
def tlA (h : Nat → Int32) (L n0 : Nat) (r0 : RR) : Nat → Nat → Nat → RR → Int32 × Nat × RR
  | 0, _, n, r => (-9, n, r)
  | fu + 1, p, n, r => if p < L then (if (dnF n r (h p) (nbA h p) (nbB h p) (nbC h p)).1 = true then tlA h L n0 r0 fu (rsF h p).2 (dnF n r (h p) (nbA h p) (nbB h p) (nbC h p)).2.1 (dnF n r (h p) (nbA h p) (nbB h p) (nbC h p)).2.2 else (-2000 - nI p, n0, r0)) else (-9, n, r)
def sp_close (g : GG) : Int32 × GG :=
  if (rdA (hrF g.lt g.L) g.L 98 0 0).1 = -9 then
    ((if (tlA (hrF g.lt g.L) g.L g.n g.r 98 0 g.n g.r).1 = -9 then nI (rdA (hrF g.lt g.L) g.L 98 0 0).2 else (tlA (hrF g.lt g.L) g.L g.n g.r 98 0 g.n g.r).1),
      ((tlA (hrF g.lt g.L) g.L g.n g.r 98 0 g.n g.r).2.1, (tlA (hrF g.lt g.L) g.L g.n g.r 98 0 g.n g.r).2.2, g.m, g.im, g.hs, g.lt, 0, g.rw, g.M, g.rf))
  else ((rdA (hrF g.lt g.L) g.L 98 0 0).1, (g.n, g.r, g.m, g.im, g.hs, g.lt, 0, g.rw, g.M, g.rf))
theorem flt_ne {B : Int32} {q : Nat} (hB : B = -1000 ∨ B = -2000) (hq : q ≤ 1000) : ¬ B - nI q = -9 := by
  intro h
  have h2 := congrArg Int32.toInt h
  have h3 : (B - nI q).toInt = B.toInt - (q : Int) := by
    rw [Int32.toInt_sub, nI_toInt (by omega), Int.bmod_eq_of_le]
    · rcases hB with rfl | rfl
      · rw [show (-1000 : Int32).toInt = -1000 from by decide]; omega
      · rw [show (-2000 : Int32).toInt = -2000 from by decide]; omega
    · rcases hB with rfl | rfl
      · rw [show (-1000 : Int32).toInt = -1000 from by decide]; omega
      · rw [show (-2000 : Int32).toInt = -2000 from by decide]; omega
  rw [h3, show (-9 : Int32).toInt = -9 from by decide] at h2
  rcases hB with rfl | rfl
  · rw [show (-1000 : Int32).toInt = -1000 from by decide] at h2; omega
  · rw [show (-2000 : Int32).toInt = -2000 from by decide] at h2; omega

theorem ff2 (p : Nat → Bool) : ff p 2 = if p 0 = true then 0 else if p 1 = true then 1 else 2 := by
  cases h0 : p 0 <;> cases h1 : p 1 <;> simp [ff, h0, h1]
theorem ff3 (p : Nat → Bool) : ff p 3 = if p 0 = true then 0 else if p 1 = true then 1 else if p 2 = true then 2 else 3 := by
  cases h0 : p 0 <;> cases h1 : p 1 <;> cases h2 : p 2 <;> simp [ff, h0, h1, h2]
theorem ff4 (p : Nat → Bool) : ff p 4 = if p 0 = true then 0 else if p 1 = true then 1 else if p 2 = true then 2 else if p 3 = true then 3 else 4 := by
  cases h0 : p 0 <;> cases h1 : p 1 <;> cases h2 : p 2 <;> cases h3 : p 3 <;> simp [ff, h0, h1, h2, h3]
theorem knd_neg (x : Int32) : kndOf x < 0 ↔ kndOf x = -9 := by
  unfold kndOf
  repeat' split
  all_goals decide
def gsP (h : Nat → Int32) (s : Nat) : Nat → Bool := fun i => !ftB (h (s + 1 + i)) (h s) (i + 1)
def gsF (h : Nat → Int32) (s : Nat) : Bool × Nat :=
  if lnN (h s) = 0 then (false, s) else if ff (gsP h s) (lnN (h s) - 1) = lnN (h s) - 1 then (true, s + lnN (h s)) else (false, s + 1 + ff (gsP h s) (lnN (h s) - 1))
theorem rs_gs (h : Nat → Int32) (s : Nat) : rsF h s = gsF h s := by
  unfold rsF gsF
  by_cases c1 : h s = 115
  · have e : lnN (h s) = 5 := by rw [lnN, if_pos c1]
    have p0 : gsP h s 0 = decide (kndOf (h (s + 1)) < 0) := by
      rw [gsP, ft_2 (by omega) (by rw [e]; decide) ⟨c1, rfl⟩]; simp [knd_neg]
    have p1 : gsP h s 1 = !isI (h (s + 2)) 48 57 := by rw [gsP, ft_3 (by omega) (by rw [e]; decide) (by omega)]
    have p2 : gsP h s 2 = !isI (h (s + 3)) 48 57 := by rw [gsP, ft_3 (by omega) (by rw [e]; decide) (by omega)]
    have p3 : gsP h s 3 = !decide (h (s + 4) = 59) := by rw [gsP, ft_1 (by omega) (by rw [e])]
    rw [if_pos c1, e, if_neg (show ¬ (5 : Nat) = 0 by decide), show 5 - 1 = 4 from rfl, ff4, p0, p1, p2, p3]
    by_cases q0 : kndOf (h (s + 1)) < 0
    · simp [q0]
    · cases q1 : isI (h (s + 2)) 48 57 with
      | false => simp [q0]
      | true => cases q2 : isI (h (s + 3)) 48 57 with
        | false => simp [q0]
        | true => by_cases q3 : h (s + 4) = 59 <;> simp [q0, q3]
  · rw [if_neg c1]
    by_cases c2 : h s = 119 ∨ h s = 97 ∨ h s = 100
    · have e : lnN (h s) = 4 := by rw [lnN, if_neg c1, if_pos c2]
      have n2 : ¬ (h s = 116 ∨ h s = 98) := by rcases c2 with c | c | c <;> rw [c] <;> decide
      have p0 : gsP h s 0 = !isI (h (s + 1)) 48 57 := by rw [gsP, ft_3 (by omega) (by rw [e]; decide) (fun z => c1 z.1)]
      have p1 : gsP h s 1 = !isI (h (s + 2)) 48 57 := by rw [gsP, ft_3 (by omega) (by rw [e]; decide) (fun z => c1 z.1)]
      have p2 : gsP h s 2 = !decide (h (s + 3) = 59) := by rw [gsP, ft_1 (by omega) (by rw [e])]
      rw [if_neg n2, if_pos c2, e, if_neg (show ¬ (4 : Nat) = 0 by decide), show 4 - 1 = 3 from rfl, ff3, p0, p1, p2]
      cases q1 : isI (h (s + 1)) 48 57 with
      | false => simp
      | true => cases q2 : isI (h (s + 2)) 48 57 with
        | false => simp
        | true => by_cases q3 : h (s + 3) = 59 <;> simp [q3]
    · by_cases c3 : h s = 116 ∨ h s = 98
      · have e : lnN (h s) = 3 := by rw [lnN, if_neg c1, if_neg c2, if_pos c3]
        have p0 : gsP h s 0 = !isI (h (s + 1)) 48 57 := by rw [gsP, ft_3 (by omega) (by rw [e]; decide) (fun z => c1 z.1)]
        have p1 : gsP h s 1 = !decide (h (s + 2) = 59) := by rw [gsP, ft_1 (by omega) (by rw [e])]
        rw [if_pos c3, e, if_neg (show ¬ (3 : Nat) = 0 by decide), show 3 - 1 = 2 from rfl, ff2, p0, p1]
        cases q1 : isI (h (s + 1)) 48 57 with
        | false => simp
        | true => by_cases q3 : h (s + 2) = 59 <;> simp [q3]
      · have e : lnN (h s) = 0 := by rw [lnN, if_neg c1, if_neg c2, if_neg c3]
        rw [if_neg c3, if_neg c2, e, if_pos rfl]
theorem lnN_3 {c : Int32} (h : 0 < lnN c) : 3 ≤ lnN c := by
  revert h; unfold lnN
  (repeat' split) <;> omega
/-- so many letters from place s on are read well, and more of the statement must come -/
def Pfx (h : Nat → Int32) (s k : Nat) : Prop := k = 0 ∨ (k < lnN (h s) ∧ ∀ j, 1 ≤ j → j < k → ftB (h (s + j)) (h s) j = true)
theorem pfx_bad {h : Nat → Int32} {s k : Nat} (hp : Pfx h s k) (hf : ftB (h (s + k)) (h s) k = false) : rsF h s = (false, s + k) := by
  rw [rs_gs, gsF]
  rcases hp with rfl | ⟨h1, h2⟩
  · rw [ftB, if_pos rfl, decide_eq_false_iff_not] at hf
    rw [if_pos (by simpa using hf)]; rfl
  · by_cases hk : k = 0
    · subst hk
      rw [ftB, if_pos rfl, decide_eq_false_iff_not] at hf
      rw [if_pos (by simpa using hf)]; rfl
    · obtain ⟨m, rfl⟩ : ∃ m, k = m + 1 := ⟨k - 1, by omega⟩
      have e : ff (gsP h s) (lnN (h s) - 1) = m := ff_eq (by omega) (by rw [gsP, show s + 1 + m = s + (m + 1) by omega, hf]; rfl)
        (fun j hj => by rw [gsP, show s + 1 + j = s + (j + 1) by omega, h2 (j + 1) (by omega) (by omega)]; rfl)
      rw [if_neg (by omega), e, if_neg (by omega), show s + 1 + m = s + (m + 1) by omega]
theorem ft_59 {hd : Int32} {j : Nat} (h : ftB 59 hd j = true) : j + 1 = lnN hd := by
  by_cases h0 : j = 0
  · rw [ftB, if_pos h0] at h; exact absurd h (by decide)
  · by_cases h1 : j + 1 = lnN hd
    · exact h1
    · by_cases h2 : hd = 115 ∧ j = 1
      · rw [ft_2 h0 h1 h2] at h; exact absurd h (by decide)
      · rw [ft_3 h0 h1 h2] at h; exact absurd h (by decide)
theorem pfx_end {h : Nat → Int32} {s k : Nat} (hp : Pfx h s k) (hf : ftB (h (s + k)) (h s) k = true) (he : h (s + k) = 59) : rsF h s = (true, s + k + 1) := by
  have hl := ft_59 (he ▸ hf)
  rw [rs_gs, gsF, if_neg (by omega)]
  have hk : k ≠ 0 := by
    intro z; subst z
    rw [show s + 0 = s from rfl] at he
    rw [he] at hl; exact absurd hl (by decide)
  have h2 := (hp.resolve_left hk).2
  have e : ff (gsP h s) (lnN (h s) - 1) = lnN (h s) - 1 := ff_none (fun j hj => by
    rw [gsP, show s + 1 + j = s + (j + 1) by omega]
    by_cases q : j + 1 = k
    · rw [q, hf]; rfl
    · rw [h2 (j + 1) (by omega) (by omega)]; rfl)
  rw [e, if_pos rfl, ← hl]; rfl
theorem pfx_next {h : Nat → Int32} {s k : Nat} (hp : Pfx h s k) (hf : ftB (h (s + k)) (h s) k = true) (he : ¬ h (s + k) = 59) : Pfx h s (k + 1) := by
  right
  by_cases hk : k = 0
  · subst hk
    rw [ftB, if_pos rfl, decide_eq_true_eq] at hf
    have := lnN_3 hf
    rw [show s + 0 = s from rfl] at this
    exact ⟨by omega, fun j h1 h2 => by omega⟩
  · obtain ⟨h1, h2⟩ := hp.resolve_left hk
    refine ⟨?_, fun j hj1 hj2 => ?_⟩
    · have : k + 1 ≠ lnN (h s) := fun z => by
        rw [ft_1 hk z, decide_eq_true_eq] at hf; exact he hf
      omega
    · by_cases q : j = k
      · subst q; exact hf
      · exact h2 j hj1 (by omega)
theorem ft_m1 {hd : Int32} {j : Nat} : ftB (-1) hd j = false := by
  by_cases h0 : j = 0
  · rw [ftB, if_pos h0]; decide
  · by_cases h1 : j + 1 = lnN hd
    · rw [ft_1 h0 h1]; decide
    · by_cases h2 : hd = 115 ∧ j = 1
      · rw [ft_2 h0 h1 h2]; decide
      · rw [ft_3 h0 h1 h2]; decide

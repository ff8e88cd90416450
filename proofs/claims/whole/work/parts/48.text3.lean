abbrev PwR (h : Nat → Int32) (L fu s m : Nat) (R : Int32 × Nat) : Prop := (rdA h L fu s m = R ∧ (s < L ∨ s = 0)) ∨ (s = L ∧ 0 < L ∧ R.1 = -9)
theorem pw_step {h : Nat → Int32} {L fu s k m : Nat} {R : Int32 × Nat} (hR : PwR h L fu s m R) (hr : rsF h s = (true, s + k + 1)) (hk : s + k < L) (hfu : 98 ≤ s + fu) (hL : L ≤ 96) : PwR h L (fu - 1) (s + k + 1) (m + 1) R := by
  have h1 := (hR.resolve_right (fun z => by omega)).1
  obtain ⟨f, rfl⟩ : ∃ f, fu = f + 1 := ⟨fu - 1, by omega⟩
  rw [rdA, hr] at h1
  simp only [reduceCtorEq, if_false] at h1
  by_cases q : s + k + 1 < L
  · rw [if_pos q] at h1; exact Or.inl ⟨h1, Or.inl q⟩
  · rw [if_neg q] at h1; exact Or.inr ⟨by omega, by omega, by rw [← h1]⟩
theorem pw_bad {h : Nat → Int32} {L fu s k m : Nat} {R : Int32 × Nat} (hR : PwR h L fu s m R) (hr : rsF h s = (false, s + k)) (hk : s + k < L) (hfu : 98 ≤ s + fu) (hL : L ≤ 96) : R.1 = -1000 - nI (s + k) := by
  have h1 := (hR.resolve_right (fun z => by omega)).1
  obtain ⟨f, rfl⟩ : ∃ f, fu = f + 1 := ⟨fu - 1, by omega⟩
  rw [rdA, hr, if_pos rfl] at h1
  rw [← h1]
theorem pw_fin {h : Nat → Int32} {L fu s m : Nat} {R : Int32 × Nat} (hR : PwR h L fu s m R) (hs : s = L) (h0 : 0 < L) : R.1 = -9 := by
  rcases hR with h1 | h1
  · exfalso; omega
  · exact h1.2.2
theorem pw_stop {lt : RR} {L fu s k m : Nat} {R : Int32 × Nat} (hR : PwR (hrF lt L) L fu s m R) (hp : Pfx (hrF lt L) s k) (hk : s + k = L) (hs : L = 0 ∨ s < L) (hfu : 98 ≤ s + fu) (hL : L ≤ 96) :
    (R.1 = -9 ∧ nI L = -9) ∨ (∃ q, q ≤ 96 ∧ nI L = nI q ∧ R.1 = -1000 - nI q) := by
  have h1 := (hR.resolve_right (fun z => by omega)).1
  obtain ⟨f, rfl⟩ : ∃ f, fu = f + 1 := ⟨fu - 1, by omega⟩
  have hf : ftB (hrF lt L (s + k)) (hrF lt L s) k = false := by rw [hrF_ge (by omega)]; exact ft_m1
  rw [rdA, pfx_bad hp hf, if_pos rfl] at h1
  exact Or.inr ⟨L, hL, rfl, by rw [← h1, hk]⟩

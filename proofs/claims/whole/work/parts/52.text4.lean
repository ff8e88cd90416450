abbrev PwQ (h : Nat → Int32) (L fu s m : Nat) (R : Int32 × Nat) : Prop := (rdA h L fu s m = R ∧ (s < L ∨ s = 0)) ∨ (s = L ∧ 0 < L ∧ R = (-9, m))
theorem tl_ok {lt : RR} {L fu s m : Nat} {R : Int32 × Nat} (hR : PwQ (hrF lt L) L fu s m R) (h9 : R.1 = -9) (hs : s < L) (hfu : 98 ≤ s + fu) (hL : L ≤ 96) : (rsF (hrF lt L) s).1 = true ∧ PwQ (hrF lt L) L (fu - 1) (rsF (hrF lt L) s).2 (m + 1) R := by
  have h1 := (hR.resolve_right (fun z => by omega)).1
  obtain ⟨f, rfl⟩ : ∃ f, fu = f + 1 := ⟨fu - 1, by omega⟩
  rw [rdA] at h1
  cases q : (rsF (hrF lt L) s).1 with
  | false =>
    exfalso
    rw [if_pos q] at h1
    rw [← h1] at h9
    exact flt_ne (q := (rsF (hrF lt L) s).2) (Or.inl rfl) (by have := rsF_le2 (hrF lt L) s; omega) h9
  | true =>
    refine ⟨rfl, ?_⟩
    rw [if_neg (by rw [q]; decide)] at h1
    have hl := rsF_le lt L s q
    by_cases c : (rsF (hrF lt L) s).2 < L
    · rw [if_pos c] at h1; exact Or.inl ⟨h1, Or.inl c⟩
    · rw [if_neg c] at h1; exact Or.inr ⟨by omega, by omega, h1.symm⟩
theorem tl_end {lt : RR} {L fu s m : Nat} {R : Int32 × Nat} (hR : PwQ (hrF lt L) L fu s m R) (h9 : R.1 = -9) (hs : ¬ s < L) (hfu : 98 ≤ s + fu) (hL : L ≤ 96) (hle : s ≤ L) : R = (-9, m) := by
  rcases hR with ⟨h1, h2⟩ | h1
  · exfalso
    obtain ⟨f, rfl⟩ : ∃ f, fu = f + 1 := ⟨fu - 1, by omega⟩
    rw [rdA] at h1
    have q : (rsF (hrF lt L) s).1 = false := by
      cases q : (rsF (hrF lt L) s).1 with
      | false => rfl
      | true => have := rsF_le lt L s q; omega
    rw [if_pos q] at h1
    rw [← h1] at h9
    exact flt_ne (q := (rsF (hrF lt L) s).2) (Or.inl rfl) (by have := rsF_le2 (hrF lt L) s; omega) h9
  · exact h1.2.2
theorem tl_next {h : Nat → Int32} {L n0 fu s n : Nat} {r0 r : RR} {T : Int32 × Nat × RR} (hT : tlA h L n0 r0 fu s n r = T) (hs : s < L) (hfu : 98 ≤ s + fu) (hL : L ≤ 96) (hd : (dnF n r (h s) (nbA h s) (nbB h s) (nbC h s)).1 = true) :
    tlA h L n0 r0 (fu - 1) (rsF h s).2 (dnF n r (h s) (nbA h s) (nbB h s) (nbC h s)).2.1 (dnF n r (h s) (nbA h s) (nbB h s) (nbC h s)).2.2 = T := by
  obtain ⟨f, rfl⟩ : ∃ f, fu = f + 1 := ⟨fu - 1, by omega⟩
  rw [tlA, if_pos hs, if_pos hd] at hT; exact hT
theorem tl_bad {h : Nat → Int32} {L n0 fu s n : Nat} {r0 r : RR} {T : Int32 × Nat × RR} (hT : tlA h L n0 r0 fu s n r = T) (hs : s < L) (hfu : 98 ≤ s + fu) (hL : L ≤ 96) (hd : (dnF n r (h s) (nbA h s) (nbB h s) (nbC h s)).1 = false) :
    T = (-2000 - nI s, n0, r0) := by
  obtain ⟨f, rfl⟩ : ∃ f, fu = f + 1 := ⟨fu - 1, by omega⟩
  rw [tlA, if_pos hs, if_neg (by rw [hd]; decide)] at hT; exact hT.symm
theorem tl_stop {h : Nat → Int32} {L n0 fu s n : Nat} {r0 r : RR} {T : Int32 × Nat × RR} (hT : tlA h L n0 r0 fu s n r = T) (hs : ¬ s < L) (hfu : 98 ≤ s + fu) (hL : L ≤ 96) (hle : s ≤ L) : T = (-9, n, r) := by
  obtain ⟨f, rfl⟩ : ∃ f, fu = f + 1 := ⟨fu - 1, by omega⟩
  rw [tlA, if_neg hs] at hT; exact hT.symm

def spF (hu : Int32) (r : RR) (n K : Nat) : Nat → Int32 × Int32 := if hu = 0 then kpF r n K else huF r n K
def adJ (q : Int32 × Int32) (j : Nat) (a b : Int32) : Prop := (j = 0 ∧ a = -9 ∧ b = -9 ∧ q = (-9, -1)) ∨ (0 < j ∧ q = (a, b))
theorem m9_lt_nn {n : Nat} {r : RR} (h : Inv n r) (set what : Int32) : (-9 : Int32) < sumN r set what n := by
  obtain ⟨x, hx, e⟩ := sumN_le h set what n (Nat.le_refl _)
  rw [e, Int32.lt_iff_toInt_lt, nI_toInt (by have := h.le; omega), show (-9 : Int32).toInt = -9 from by decide]; omega
theorem adJ.yes {q : Int32 × Int32} {j : Nat} {a b v : Int32} (h : adJ q j a b) (hv : (-1 : Int32) < v) (c : b < v) : q.2 < v := by
  rcases h with ⟨_, _, _, h4⟩ | ⟨_, h2⟩
  · rw [h4]; exact hv
  · rw [h2]; exact c
theorem adJ.no {q : Int32 × Int32} {j : Nat} {a b v : Int32} (h : adJ q j a b) (hv : (-9 : Int32) < v) (c : ¬ b < v) : ¬ q.2 < v ∧ 0 < j ∧ q = (a, b) := by
  rcases h with ⟨_, _, h3, _⟩ | ⟨h1, h2⟩
  · rw [h3] at c; exact absurd hv c
  · rw [h2]; exact ⟨c, h1, rfl⟩
theorem ad1_3 {r : RR} {n : Nat} {x w : Int32} (h : r 3 = -9) : (ad1 (r, n) x w).1 3 = -9 := by
  unfold ad1; split
  · exact (addR_lo (by omega) (by omega)).trans h
  · exact h
theorem Rep.ad1 {n : Nat} {r : RR} {u u2 : TK} {v : Int32} (h : Rep n r u) (hlo : u.lo = 0) (huw : u.uw = 0) (hk3 : r 3 = -9) {p : Int32} (hp : womB p = true)
    (hz : (n < 9 ∧ v = 1 ∧ ∃ w, w < 4 ∧ p = nI w ∧ u2 = tmT u n 4 5 w) ∨ ((¬ n < 9 ∨ womB p = false) ∧ v = 0 ∧ u2 = u)) :
    Rep (ad1 (r, n) 1 p).2 (ad1 (r, n) 1 p).1 u2 ∧ u2.lo = 0 ∧ u2.uw = 0 ∧ u2.fl = u.fl := by
  rcases hz with ⟨h1, _, w, hw, rfl, rfl⟩ | ⟨h1, _, rfl⟩
  · rw [_root_.Jvm.Pilot.CNestsOfTalkLaw_law_r4923_87dfec.ad1, if_pos ⟨rfl, h1⟩]
    exact ⟨h.more hlo huw hk3 h1 (k := 4) (f := 5) (by omega) (by omega) hw, hlo, huw, rfl⟩
  · have h2 : ¬ n < 9 := h1.resolve_right (by rw [hp]; decide)
    rw [_root_.Jvm.Pilot.CNestsOfTalkLaw_law_r4923_87dfec.ad1, if_neg (fun q => h2 q.2)]
    exact ⟨h, hlo, huw, rfl⟩
theorem ad1_no (q : RR × Nat) (w : Int32) : ad1 q 0 w = q := by
  unfold ad1; rw [if_neg (fun z => absurd z.1 (by decide))]
theorem tw_bits : ∀ k, k < 4 → ((nI k &&& 2 = 0 → twX k = 0) ∧ (¬ nI k &&& 2 = 0 → twX k = 1)) ∧ ((nI k &&& 1 = 0 → twY k = 0) ∧ (¬ nI k &&& 1 = 0 → twY k = 1)) := by decide +kernel
theorem tw_xor : ∀ k, k < 4 → (nI k ^^^ 2 = nI (k ^^^ 2) ∧ k ^^^ 2 < 4 ∧ twX (k ^^^ 2) = 1 - twX k ∧ twY (k ^^^ 2) = twY k) ∧ (nI k ^^^ 1 = nI (k ^^^ 1) ∧ k ^^^ 1 < 4 ∧ twX (k ^^^ 1) = twX k ∧ twY (k ^^^ 1) = 1 - twY k) := by decide +kernel
theorem Inv.iad1 {n : Nat} {r : RR} (h : Inv n r) (x : Int32) {w : Nat} (hw : w < 4) : Inv (ad1 (r, n) x (nI w)).2 (ad1 (r, n) x (nI w)).1 := by
  unfold ad1; split
  · rename_i q; exact h.iaddN q.2 (k := 4) (f := 5) (by omega) (by omega) (okv_2 hw rfl)
  · exact h
theorem Inv.isfQ {n : Nat} {r : RR} (h : Inv n r) {a b : Nat} (ha : a < 4) (hb : b < 4) (x y : Int32) : Inv (sfQ r n (nI a) x (nI b) y).2 (sfQ r n (nI a) x (nI b) y).1 := by
  unfold sfQ; exact (h.iad1 x hb).iad1 y ha
theorem le_flip {a b c d : Nat} (ha : a < 1000) (hb : b < 1000) (hc : c < 1000) (hd : d < 1000) : (nI a - nI b ≤ nI c - nI d) ↔ (nI d - nI c ≤ nI b - nI a) := by
  have e : ∀ x y : Nat, x < 1000 → y < 1000 → (nI x - nI y).toInt = (x : Int) - y := by
    intro x y hx hy
    rw [Int32.toInt_sub, nI_toInt (by omega), nI_toInt (by omega), Int.bmod_eq_of_le (by omega) (by omega)]
  rw [Int32.le_iff_toInt_le, Int32.le_iff_toInt_le, e a b ha hb, e c d hc hd, e d c hd hc, e b a hb ha]; omega
theorem sf_flip {r : RR} {n K : Nat} (h : Inv n r) {a b : Nat} (ha : a < 4) (hb : b < 4) (x y x' y' : Int32) :
    (sfV r n K (nI b) (nI a) (nI a) x (nI b) y ≤ sfV r n K (nI b) (nI a) (nI a) x' (nI b) y') ↔ (sfV r n K (nI a) (nI b) (nI a) x' (nI b) y' ≤ sfV r n K (nI a) (nI b) (nI a) x (nI b) y) := by
  have h1 := (h.isfQ ha hb x y).idsR K
  have h2 := (h.isfQ ha hb x' y').idsR K
  unfold sfV
  obtain ⟨s1, b1, e1⟩ := sumN_le h1 (nst (dsR (sfQ r n (nI a) x (nI b) y).1 (sfQ r n (nI a) x (nI b) y).2 K) (sfQ r n (nI a) x (nI b) y).2 (nI b)) 1 _ (Nat.le_refl _)
  obtain ⟨s2, b2, e2⟩ := sumN_le h1 (nst (dsR (sfQ r n (nI a) x (nI b) y).1 (sfQ r n (nI a) x (nI b) y).2 K) (sfQ r n (nI a) x (nI b) y).2 (nI a)) 1 _ (Nat.le_refl _)
  obtain ⟨s3, b3, e3⟩ := sumN_le h2 (nst (dsR (sfQ r n (nI a) x' (nI b) y').1 (sfQ r n (nI a) x' (nI b) y').2 K) (sfQ r n (nI a) x' (nI b) y').2 (nI b)) 1 _ (Nat.le_refl _)
  obtain ⟨s4, b4, e4⟩ := sumN_le h2 (nst (dsR (sfQ r n (nI a) x' (nI b) y').1 (sfQ r n (nI a) x' (nI b) y').2 K) (sfQ r n (nI a) x' (nI b) y').2 (nI a)) 1 _ (Nat.le_refl _)
  have l1 := h1.le
  have l2 := h2.le
  rw [e1, e2, e3, e4]
  exact le_flip (by omega) (by omega) (by omega) (by omega)
def gnF (r : RR) (n K : Nat) (a b : Int32) (j : Nat) : Int32 := sfV r n K a b a (twX j) b (twY j)
theorem tw_gn {r : RR} {n K : Nat} (h : Inv n r) {a b : Nat} (ha : a < 4) (hb : b < 4) {k : Nat} (hk : k < 4) : twP r n K (nI a) (nI b) k = decide (gnF r n K (nI a) (nI b) (k ^^^ 2) ≤ gnF r n K (nI a) (nI b) k ∧ gnF r n K (nI a) (nI b) k ≤ gnF r n K (nI a) (nI b) (k ^^^ 1)) := by
  obtain ⟨⟨_, _, e1, e2⟩, ⟨_, _, e3, e4⟩⟩ := tw_xor k hk
  rw [twP, gnF, gnF, gnF, e1, e2, e3, e4]
  simp only [sf_flip h ha hb]
theorem wrB_in {v lo hi : Int32} (h : isI v lo hi = true) : wrB v lo hi = 0 := by
  rw [isI, decide_eq_true_eq] at h
  rw [wrB, if_neg (Int32.not_lt.2 h.1), if_neg (Int32.not_lt.2 h.2)]
theorem mul10 (x y : Int32) : x * 10 + y = 10 * x + y := by rw [Int32.mul_comm]
theorem ww_stop {R : RR} {n : Nat} {w : Int32} {rw : RR} {i : Nat} (h : wwI R n w rw (i + 1) = false) {M : Nat} (hM : i < M) : wwI R n w rw M = false := by
  obtain ⟨k, rfl⟩ : ∃ k, M = i + 1 + k := ⟨M - (i + 1), by omega⟩
  induction k with
  | zero => exact h
  | succ k ih => rw [show i + 1 + (k + 1) = (i + 1 + k) + 1 by omega, wwI, ih (by omega)]; rfl

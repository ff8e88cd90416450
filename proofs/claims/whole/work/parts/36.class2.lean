theorem and_b1 (x : Int32) {w : Nat} (hw : w < 32) : (x &&& b1 w = 0) ↔ bt x w = false := by
  constructor
  · intro h
    have := congrArg (fun z => bt z w) h
    simp only [bt_and, bt_b1 hw, bt_0] at this
    simpa using this
  · intro h
    apply bt_ext; intro i hi
    rw [bt_and, bt_b1 hw, bt_0]
    by_cases q : i = w
    · subst q; rw [h]; rfl
    · simp [q]
theorem whP_b1 (r : RR) (n : Nat) {w : Nat} (hw : w < 4) (j : Nat) : whP r n (b1 w) j = bt (dayS (dsR r n j) n) w := by
  rw [whP]
  cases q : bt (dayS (dsR r n j) n) w with
  | false => rw [decide_eq_true ((and_b1 _ (by omega)).2 q)]; rfl
  | true => rw [decide_eq_false (fun z => by rw [(and_b1 _ (by omega)).1 z] at q; cases q)]; rfl
theorem dayS_15 (r : RR) (n : Nat) : dayS r n &&& 15 = dayS r n := by
  apply bt_ext; intro i hi
  rw [bt_and]
  by_cases q : 4 ≤ i
  · rw [dayS, flS_bt _ _ 4 (by omega) i q]; rfl
  · have : bt 15 i = true := by
      have : i = 0 ∨ i = 1 ∨ i = 2 ∨ i = 3 := by omega
      rcases this with rfl | rfl | rfl | rfl <;> decide
    rw [this, Bool.and_true]
theorem whP_15 (r : RR) (n j : Nat) : whP r n 15 j = !decide (dayS (dsR r n j) n = 0) := by rw [whP, dayS_15]
theorem ff_congr {p q : Nat → Bool} : ∀ n, (∀ j, j < n → p j = q j) → ff p n = ff q n
  | 0, _ => rfl
  | n + 1, h => by rw [ff, ff, ff_congr n (fun j hj => h j (by omega)), h n (by omega)]
def lwF (s : Int32) : Int32 := if ff (bt s) 4 < 4 then nI (ff (bt s) 4) else -9
theorem nI_inj {a b : Nat} (ha : a < 2147483648) (hb : b < 2147483648) (h : nI a = nI b) : a = b := (nI_eq ha hb).1 h
theorem nI_ne9 {a : Nat} (ha : a < 2147483648) : ¬ (-9 : Int32) = nI a := by
  intro h
  have := congrArg Int32.toInt h
  rw [nI_toInt ha, show (-9 : Int32).toInt = -9 from by decide] at this
  omega
theorem nI_nn {a : Nat} (ha : a < 2147483648) : ¬ nI a < 0 := by
  rw [Int32.lt_iff_toInt_lt, nI_toInt ha]; have : (0 : Int32).toInt = 0 := rfl
  omega
theorem first_w {r : RR} {n k : Nat} (hk : k < 60) (h : ∀ j, j < k → whP r n 15 j = false) {w : Nat} (hw : w < 4) : fsP r n (nI (k + 1)) w = bt (dayS (dsR r n k) n) w := by
  have h0 : ∀ j, j < k → whP r n (b1 w) j = false := by
    intro j hj
    have := h j hj
    rw [whP_15] at this
    rw [whP_b1 r n hw, (by simpa using this : dayS (dsR r n j) n = 0), bt_0]
  rw [fsP]
  cases q : bt (dayS (dsR r n k) n) w with
  | true =>
    have e : ff (whP r n (b1 w)) 60 = k := ff_eq hk (by rw [whP_b1 r n hw]; exact q) h0
    rw [whF, e, if_pos hk]; simp
  | false =>
    rw [decide_eq_false]
    intro z
    rw [whF] at z
    split at z
    · rename_i c
      have e := nI_inj (by omega) (by omega) z
      have t := (ff_lt c).1
      rw [show ff (whP r n (b1 w)) 60 = k by omega, whP_b1 r n hw, q] at t
      cases t
    · exact nI_ne9 (by omega) z
theorem first_f {r : RR} {n k : Nat} (hk : k < 60) (h : ∀ j, j < k → whP r n 15 j = false) : ff (fsP r n (nI (k + 1))) 4 = ff (bt (dayS (dsR r n k) n)) 4 := ff_congr 4 (fun _ hw => first_w hk h hw)
theorem or0_l (x : Int32) : 0 ||| x = x := by simp
theorem isI_ge {p lo hi x : Int32} (h : ¬ p < x) (e : hi.toInt < x.toInt) : isI p lo hi = false := by
  rw [isI, decide_eq_false_iff_not]
  rintro ⟨_, q⟩
  rw [Int32.lt_iff_toInt_lt] at h; rw [Int32.le_iff_toInt_le] at q; omega
theorem nI_l3 : nI 3 = 3 := rfl

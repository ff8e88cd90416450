/-! ===== bits of an Int32, sets of at most nine ===== -/
def bt (x : Int32) (i : Nat) : Bool := x.toBitVec.getLsbD i
theorem bt_ext {x y : Int32} (h : ∀ i, i < 32 → bt x i = bt y i) : x = y :=
  Int32.toBitVec_inj.1 (BitVec.eq_of_getLsbD_eq_iff.2 h)
theorem bt_big (x : Int32) {i : Nat} (h : 32 ≤ i) : bt x i = false := BitVec.getLsbD_of_ge _ _ h
theorem bt_and (x y : Int32) (i : Nat) : bt (x &&& y) i = (bt x i && bt y i) := by
  show (x.toBitVec &&& y.toBitVec).getLsbD i = _
  rw [BitVec.getLsbD_and]; rfl
theorem bt_or (x y : Int32) (i : Nat) : bt (x ||| y) i = (bt x i || bt y i) := by
  show (x.toBitVec ||| y.toBitVec).getLsbD i = _
  rw [BitVec.getLsbD_or]; rfl
theorem bt_xor (x y : Int32) (i : Nat) : bt (x ^^^ y) i = (bt x i ^^ bt y i) := by
  show (x.toBitVec ^^^ y.toBitVec).getLsbD i = _
  rw [BitVec.getLsbD_xor]; rfl
theorem bt_m1 : ∀ i, i < 32 → bt (-1) i = true := by decide +kernel
theorem bt_0 (i : Nat) : bt 0 i = false := by
  show (0#32).getLsbD i = false
  exact BitVec.getLsbD_zero
theorem bt_n (x : Int32) {i : Nat} (h : i < 32) : bt (x ^^^ (-1)) i = !bt x i := by
  rw [bt_xor, bt_m1 i h]; cases bt x i <;> rfl
/-- the set of t alone -/
def b1 (t : Nat) : Int32 := (1 : Int32) <<< (nI t &&& 31)
theorem bt_b1' : ∀ t, t < 32 → ∀ i, i < 32 → bt (b1 t) i = decide (i = t) := by decide +kernel
theorem bt_b1 {t i : Nat} (ht : t < 32) : bt (b1 t) i = decide (i = t) := by
  by_cases hi : i < 32
  · exact bt_b1' t ht i hi
  · rw [bt_big _ (by omega)]
    have : ¬ i = t := by omega
    simp [this]
theorem bt_1 : ∀ i, i < 32 → bt 1 i = decide (i = 0) := by decide +kernel
theorem smod_s : ∀ t, t < 32 → ((nI t &&& 31).toBitVec.smod 32).toNat = t := by decide +kernel
theorem and31 : ∀ t, t < 32 → nI t &&& 31 = nI t := by decide +kernel
theorem bt_shr (x : Int32) {t i : Nat} (ht : t + i < 32) : bt (x >>> (nI t &&& 31)) i = bt x (t + i) := by
  show (x.toBitVec.sshiftRight ((nI t &&& 31).toBitVec.smod 32).toNat).getLsbD i = _
  rw [smod_s t (by omega), BitVec.getLsbD_sshiftRight]
  have h1 : ¬ 32 ≤ i := by omega
  simp [h1, ht, bt]
theorem and_1 (x : Int32) : x &&& 1 = if bt x 0 = true then 1 else 0 := by
  apply bt_ext
  intro i hi
  rw [bt_and, bt_1 i hi]
  by_cases h0 : i = 0
  · subst h0
    by_cases hb : bt x 0 = true
    · rw [if_pos hb, hb]; rfl
    · rw [if_neg hb]; simp [hb]; rw [bt_0]
  · by_cases hb : bt x 0 = true
    · rw [if_pos hb, bt_1 i hi]; simp [h0]
    · rw [if_neg hb, bt_0]; simp [h0]
theorem hx_val (x : Int32) {t : Nat} (ht : t < 32) : (x >>> (nI t &&& 31)) &&& 1 = if bt x t = true then 1 else 0 := by
  rw [and_1, bt_shr x (by omega)]; rfl
theorem hx_iff (x : Int32) {t : Nat} (ht : t < 32) : (x >>> (nI t &&& 31)) &&& 1 = 1 ↔ bt x t = true := by
  rw [hx_val x ht]
  by_cases h : bt x t = true
  · simp [h]
  · rw [if_neg h]; simp [h]
theorem low_0 : (0 : Int32) &&& -0 = 0 := by decide +kernel
theorem low_1 {x : Int32} {t : Nat} (ht : t < 32) (h : bt x t = true) (hm : ∀ j, j < t → bt x j = false) : x &&& -x = b1 t := by
  apply bt_ext
  intro i hi
  rw [bt_and, bt_b1 ht]
  have hn : bt (-x) i = (bt x i ^^ (decide (i < 32) && decide (∃ j, j < i ∧ bt x j = true))) := by
    show (-x.toBitVec).getLsbD i = _
    rw [BitVec.getLsbD_neg]
    rfl
  rw [hn]
  rcases Nat.lt_trichotomy i t with q | q | q
  · rw [hm i q]; have : ¬ i = t := by omega
    simp [this]
  · subst q
    have : ¬ ∃ j, j < i ∧ bt x j = true := fun ⟨j, hj, hb⟩ => by rw [hm j hj] at hb; cases hb
    rw [h]; simp only [this, hi, decide_false, decide_true]; rfl
  · have he : ∃ j, j < i ∧ bt x j = true := ⟨t, q, h⟩
    have : ¬ i = t := by omega
    simp only [he, hi, this, decide_true, decide_false]
    cases bt x i <;> rfl
/-- the set of the t below n with p -/
def mk (p : Nat → Bool) : Nat → Int32
  | 0 => 0
  | t + 1 => mk p t ||| (if p t = true then b1 t else 0)
theorem bt_mk (p : Nat → Bool) : ∀ (n : Nat), n ≤ 32 → ∀ i : Nat, bt (mk p n) i = (decide (i < n) && p i)
  | 0, _, i => by rw [mk, bt_0]; simp
  | n + 1, hn, i => by
    rw [mk, bt_or, bt_mk p n (by omega) i]
    by_cases hp : p n = true
    · rw [if_pos hp, bt_b1 (by omega)]
      by_cases hi : i = n
      · subst hi; simp [hp]
      · have : (i < n + 1) ↔ (i < n) := by omega
        simp [hi, this]
    · rw [if_neg hp, bt_0]
      by_cases hi : i = n
      · subst hi; simp [hp]
      · have : (i < n + 1) ↔ (i < n) := by omega
        simp [this]
theorem mk_eq {p : Nat → Bool} {n : Nat} {x : Int32} (hn : n ≤ 32) (h : ∀ i, i < n → bt x i = p i) (h2 : ∀ i, n ≤ i → i < 32 → bt x i = false) : x = mk p n := by
  apply bt_ext
  intro i hi
  rw [bt_mk p n hn]
  by_cases q : i < n
  · rw [h i q]; simp [q]
  · rw [h2 i (by omega) hi]; simp [q]
theorem mk_congr {p q : Nat → Bool} {n : Nat} (h : ∀ i, i < n → p i = q i) : mk p n = mk q n := by
  induction n with
  | zero => rfl
  | succ n ih => rw [mk, mk, ih (fun i hi => h i (by omega)), h n (by omega)]
theorem mk_none {p : Nat → Bool} {n : Nat} (h : ∀ i, i < n → p i = false) : mk p n = 0 := by
  induction n with
  | zero => rfl
  | succ n ih => rw [mk, ih (fun i hi => h i (by omega)), h n (by omega), if_neg Bool.false_ne_true]; decide
theorem mk_0 {p : Nat → Bool} {n : Nat} (hn : n ≤ 32) : mk p n = 0 ↔ ∀ i, i < n → p i = false := by
  refine ⟨fun h i hi => ?_, mk_none⟩
  have h1 := bt_mk p n hn i
  rw [h, bt_0] at h1
  simpa [hi] using h1.symm
/-- how many of the first n bits -/
def cntN (x : Int32) : Nat → Nat
  | 0 => 0
  | k + 1 => cntN x k + (if bt x k = true then 1 else 0)
theorem cntN_le (x : Int32) : ∀ n, cntN x n ≤ n
  | 0 => Nat.le_refl _
  | n + 1 => by
    have := cntN_le x n
    rw [cntN]; split <;> omega
theorem cntN_0 {x : Int32} {n : Nat} : cntN x n = 0 ↔ ∀ i, i < n → bt x i = false := by
  induction n with
  | zero => simp [cntN]
  | succ n ih =>
    rw [cntN]
    constructor
    · intro h i hi
      have h1 : cntN x n = 0 := by omega
      by_cases q : i = n
      · subst q
        cases hb : bt x i with
        | false => rfl
        | true => rw [if_pos hb] at h; omega
      · exact ih.1 h1 i (by omega)
    · intro h
      rw [ih.2 (fun i hi => h i (by omega)), if_neg (by rw [h n (by omega)]; simp)]
theorem cntN_ge {x : Int32} {n k : Nat} (hk : n ≤ k) (h : ∀ i, n ≤ i → i < k → bt x i = false) : cntN x k = cntN x n := by
  induction k with
  | zero => have : n = 0 := by omega
            subst this; rfl
  | succ k ih =>
    by_cases q : n = k + 1
    · subst q; rfl
    · rw [cntN, ih (by omega) (fun i h1 h2 => h i h1 (by omega)), if_neg (by rw [h k (by omega) (by omega)]; simp)]; rfl
theorem cntN_congr {x y : Int32} {n : Nat} (h : ∀ i, i < n → bt x i = bt y i) : cntN x n = cntN y n := by
  induction n with
  | zero => rfl
  | succ n ih => rw [cntN, cntN, ih (fun i hi => h i (by omega)), h n (by omega)]
/-- what Integer.bitCount makes of a number -/
def bcF (x : Int32) : Int32 :=
  let a := x - ((x.toUInt32 >>> ((1 : Int32).toUInt32 &&& Int32.toUInt32 31)).toInt32 &&& 1431655765)
  let b := (a &&& 858993459) + ((a.toUInt32 >>> ((2 : Int32).toUInt32 &&& Int32.toUInt32 31)).toInt32 &&& 858993459)
  let d := (b + (b.toUInt32 >>> ((4 : Int32).toUInt32 &&& Int32.toUInt32 31)).toInt32) &&& 252645135
  let f := d + (d.toUInt32 >>> ((8 : Int32).toUInt32 &&& Int32.toUInt32 31)).toInt32
  let g := f + (f.toUInt32 >>> ((16 : Int32).toUInt32 &&& Int32.toUInt32 31)).toInt32
  g &&& 63
theorem bcF_small : ∀ m, m < 1024 → bcF (nI m) = nI (cntN (nI m) 10) := by decide +kernel
theorem small_of_bt {x : Int32} {n : Nat} (hn : n < 31) (h : ∀ i, n ≤ i → i < 32 → bt x i = false) : ∃ m : Nat, m < 2 ^ n ∧ x = nI m := by
  refine ⟨x.toBitVec.toNat, Nat.lt_pow_two_of_testBit _ (fun i hi => ?_), ?_⟩
  · rw [← BitVec.getLsbD]
    by_cases q : i < 32
    · exact h i hi q
    · exact BitVec.getLsbD_of_ge _ _ (by omega)
  · exact Int32.toBitVec_inj.1 (by
      show x.toBitVec = BitVec.ofNat 32 x.toBitVec.toNat
      rw [BitVec.ofNat_toNat]; simp)
theorem bcF_eq {x : Int32} {n : Nat} (hn : n ≤ 10) (h : ∀ i, n ≤ i → i < 32 → bt x i = false) : bcF x = nI (cntN x n) := by
  obtain ⟨m, hm, e⟩ := small_of_bt (n := 10) (by omega) (fun i h1 h2 => h i (by omega) h2)
  have h2 := bcF_small m hm
  rw [← e] at h2
  rw [h2, cntN_ge (x := x) hn (fun i h1 h3 => h i h1 (by omega))]

/-! ===== a Talk's cells, and how they hold a row ===== -/
abbrev TK : Type := Int32 × Int32 × Int32 × Int32 × Int32 × Int32 × Int32 × Int32 × (Nat → Int32) × (Nat → Int32) × (Nat → Int32) × (Nat → Int32)
abbrev TK.sz (u : TK) : Int32 := u.1
abbrev TK.dy (u : TK) : Int32 := u.2.1
abbrev TK.rb (u : TK) : Int32 := u.2.2.1
abbrev TK.ins (u : TK) : Int32 := u.2.2.2.1
abbrev TK.fo (u : TK) : Int32 := u.2.2.2.2.1
abbrev TK.fl (u : TK) : Int32 := u.2.2.2.2.2.1
abbrev TK.uw (u : TK) : Int32 := u.2.2.2.2.2.2.1
abbrev TK.lo (u : TK) : Int32 := u.2.2.2.2.2.2.2.1
abbrev TK.kd (u : TK) : Nat → Int32 := u.2.2.2.2.2.2.2.2.1
abbrev TK.fg (u : TK) : Nat → Int32 := u.2.2.2.2.2.2.2.2.2.1
abbrev TK.wn (u : TK) : Nat → Int32 := u.2.2.2.2.2.2.2.2.2.2.1
abbrev TK.tl (u : TK) : Nat → Int32 := u.2.2.2.2.2.2.2.2.2.2.2
def abS (r : RR) (n : Nat) (w : Int32) : Int32 := mk (fun t => decide (r (oF t 2) = w)) n
/-- the Talk u holds the row r of n sayings -/
def Rep (n : Nat) (r : RR) (u : TK) : Prop := Inv n r ∧ u.sz = nI n ∧ u.dy = r 1 ∧ u.rb = r 2 ∧ u.ins = inS r n ∧
  (∀ t, t < n → u.kd t = r (oF t 0) ∧ u.fg t = r (oF t 1) ∧ u.wn t = r (oF t 3)) ∧
  (∀ w, w < 4 → u.tl w &&& (u.lo ^^^ (-1)) = abS r n (nI w)) ∧ u.ins &&& u.lo = 0 ∧ (∀ t, t < n → bt u.uw t = decide (nI t = r 3))
theorem Rep.inv {n : Nat} {r : RR} {u : TK} (h : Rep n r u) : Inv n r := h.1
theorem Rep.le {n : Nat} {r : RR} {u : TK} (h : Rep n r u) : n ≤ 9 := h.1.1
theorem Rep.hsz {n : Nat} {r : RR} {u : TK} (h : Rep n r u) : u.sz = nI n := h.2.1
theorem Rep.hdy {n : Nat} {r : RR} {u : TK} (h : Rep n r u) : u.dy = r 1 := h.2.2.1
theorem Rep.hrb {n : Nat} {r : RR} {u : TK} (h : Rep n r u) : u.rb = r 2 := h.2.2.2.1
theorem Rep.hins {n : Nat} {r : RR} {u : TK} (h : Rep n r u) : u.ins = inS r n := h.2.2.2.2.1
theorem Rep.hkd {n : Nat} {r : RR} {u : TK} (h : Rep n r u) {t : Nat} (ht : t < n) : u.kd t = r (oF t 0) := (h.2.2.2.2.2.1 t ht).1
theorem Rep.hfg {n : Nat} {r : RR} {u : TK} (h : Rep n r u) {t : Nat} (ht : t < n) : u.fg t = r (oF t 1) := (h.2.2.2.2.2.1 t ht).2.1
theorem Rep.hwn {n : Nat} {r : RR} {u : TK} (h : Rep n r u) {t : Nat} (ht : t < n) : u.wn t = r (oF t 3) := (h.2.2.2.2.2.1 t ht).2.2
theorem Rep.htl {n : Nat} {r : RR} {u : TK} (h : Rep n r u) {w : Nat} (hw : w < 4) : u.tl w &&& (u.lo ^^^ (-1)) = abS r n (nI w) := h.2.2.2.2.2.2.1 w hw
theorem Rep.hil {n : Nat} {r : RR} {u : TK} (h : Rep n r u) : u.ins &&& u.lo = 0 := h.2.2.2.2.2.2.2.1
theorem Rep.huw {n : Nat} {r : RR} {u : TK} (h : Rep n r u) {t : Nat} (ht : t < n) : bt u.uw t = decide (nI t = r 3) := h.2.2.2.2.2.2.2.2 t ht
theorem bt_abS {r : RR} {n : Nat} (hn : n ≤ 9) (w : Int32) (i : Nat) : bt (abS r n w) i = (decide (i < n) && decide (r (oF i 2) = w)) := bt_mk _ n (by omega) i
theorem bt_inS {r : RR} {n : Nat} (hn : n ≤ 9) (i : Nat) : bt (inS r n) i = (decide (i < n) && decide (r (oF i 4) = 1)) := bt_mk _ n (by omega) i
theorem bt_nst {r : RR} {n : Nat} (hn : n ≤ 9) (w : Int32) (i : Nat) : bt (nst r n w) i = (decide (i < n) && (decide (r (oF i 2) = w) && decide (r (oF i 4) = 1))) := bt_mk _ n (by omega) i
theorem bt_sad {r : RR} {n : Nat} (hn : n ≤ 9) (w : Int32) (i : Nat) : bt (sad r n w) i = (decide (i < n) && (decide (r (oF i 2) = w) && decide (r (oF i 4) = 0))) := bt_mk _ n (by omega) i
theorem Inv.in01 {n : Nat} {r : RR} (h : Inv n r) {t : Nat} (ht : t < n) : r (oF t 4) = 0 ∨ r (oF t 4) = 1 := by
  obtain ⟨b, hb, e⟩ := (h.get ht (show 4 < 5 by omega)).2.2.2.2 rfl
  rcases (show b = 0 ∨ b = 1 by omega) with rfl | rfl
  · exact Or.inl e
  · exact Or.inr e
theorem Rep.nest {n : Nat} {r : RR} {u : TK} (h : Rep n r u) {w : Nat} (hw : w < 4) : u.tl w &&& u.ins = nst r n (nI w) := by
  apply bt_ext
  intro i hi
  rw [bt_and, bt_nst h.le]
  have h1 := congrArg (fun x => bt x i) (h.htl hw)
  have h2 := congrArg (fun x => bt x i) h.hil
  have h3 := congrArg (fun x => bt x i) h.hins
  simp only [bt_and, bt_n _ hi, bt_abS h.le, bt_inS h.le, bt_0] at h1 h2 h3
  rw [h3] at h2 ⊢
  cases hlo : bt u.lo i with
  | false => rw [hlo] at h1; simp at h1; rw [h1]; cases decide (i < n) <;> simp
  | true =>
    rw [hlo] at h2; simp at h2
    cases hin : decide (i < n) with
    | false => simp
    | true =>
      have : i < n := by simpa using hin
      simp [h2 this]
theorem Rep.said {n : Nat} {r : RR} {u : TK} (h : Rep n r u) {w : Nat} (hw : w < 4) : u.tl w &&& (u.ins ^^^ (-1)) &&& (u.lo ^^^ (-1)) = sad r n (nI w) := by
  apply bt_ext
  intro i hi
  rw [bt_and, bt_and, bt_n _ hi, bt_n _ hi, bt_sad h.le]
  have h1 := congrArg (fun x => bt x i) (h.htl hw)
  have h3 := congrArg (fun x => bt x i) h.hins
  simp only [bt_and, bt_n _ hi, bt_abS h.le, bt_inS h.le] at h1 h3
  rw [h3]
  by_cases hn : i < n
  · rcases h.inv.in01 hn with q | q
    · simp only [hn, decide_true, Bool.true_and, q] at h1 ⊢
      rw [← h1]; simp
    · have : ¬ (1 : Int32) = 0 := by decide
      simp [hn, q, this]
  · simp only [hn, decide_false, Bool.false_and] at h1 ⊢
    simp
    intro h4; rw [h4] at h1; simpa using h1
theorem Rep.fresh {n : Nat} {r : RR} {u : TK} (h : Rep n r u) {t : Nat} (ht : t < n) : (if u.wn t ≤ u.fg t then u.fg t - u.wn t else 0) = frs r t := by
  rw [h.hfg ht, h.hwn ht, frs]
  obtain ⟨f, hf, ef⟩ := (h.inv.get ht (show 1 < 5 by omega)).2.1 rfl
  obtain ⟨w, hw, ew⟩ := (h.inv.get ht (show 3 < 5 by omega)).2.2.2.1 rfl
  rw [ef, ew]
  have key : ∀ f, f < 10 → ∀ w, w < 10 → (if nI w ≤ nI f then nI f - nI w else 0) = if nI f - nI w < 0 then 0 else nI f - nI w := by decide +kernel
  exact key f hf w hw
/-- how fresh: 0 .. 9 -/
theorem Inv.ifrs {n : Nat} {r : RR} (h : Inv n r) {t : Nat} (ht : t < n) : ∃ x, x < 10 ∧ frs r t = nI x := by
  obtain ⟨f, hf, ef⟩ := (h.get ht (show 1 < 5 by omega)).2.1 rfl
  obtain ⟨w, hw, ew⟩ := (h.get ht (show 3 < 5 by omega)).2.2.2.1 rfl
  have key : ∀ f, f < 10 → ∀ w, w < 10 → (if nI f - nI w < 0 then (0 : Int32) else nI f - nI w) = nI (f - w) := by decide +kernel
  exact ⟨f - w, by omega, by rw [frs, ef, ew]; exact key f hf w hw⟩
theorem one_le {n : Nat} {r : RR} (h : Inv n r) {t : Nat} (ht : t < n) (what : Int32) : ∃ x, x ≤ 24 ∧ one r what t = nI x := by
  obtain ⟨x, hx, e⟩ := h.ifrs ht
  obtain ⟨k, hk, e2⟩ := (h.get ht (show 0 < 5 by omega)).1 rfl
  rw [one, e, e2]
  have k1 : ∀ k, k < 6 → ∀ x, x < 10 → (softK (nI k) (nI x)).toInt = (softK (nI k) (nI x)).toNatClampNeg ∧ (softK (nI k) (nI x)).toNatClampNeg ≤ 24 := by decide +kernel
  have k2 : ∀ k, k < 6 → ∀ x, x < 10 → (bindsK (nI k) (nI x)).toInt = (bindsK (nI k) (nI x)).toNatClampNeg ∧ (bindsK (nI k) (nI x)).toNatClampNeg ≤ 24 := by decide +kernel
  have k3 : ∀ k, k < 6 → ∀ x, x < 10 → (weighsK (nI k) (nI x)).toInt = (weighsK (nI k) (nI x)).toNatClampNeg ∧ (weighsK (nI k) (nI x)).toNatClampNeg ≤ 24 := by decide +kernel
  have g : ∀ y : Int32, (y.toInt = y.toNatClampNeg ∧ y.toNatClampNeg ≤ 24) → ∃ z, z ≤ 24 ∧ y = nI z := by
    intro y ⟨h1, h2⟩
    exact ⟨y.toNatClampNeg, h2, Int32.toInt_inj.mp (by rw [nI_toInt (by omega)]; exact h1)⟩
  split
  · exact g _ (k1 k hk x hx)
  · split
    · exact g _ (k2 k hk x hx)
    · exact g _ (k3 k hk x hx)
theorem sumN_le {n : Nat} {r : RR} (h : Inv n r) (set what : Int32) : ∀ k, k ≤ n → ∃ x, x ≤ 24 * k ∧ sumN r set what k = nI x
  | 0, _ => ⟨0, Nat.le_refl _, rfl⟩
  | k + 1, hk => by
    obtain ⟨x, hx, e⟩ := sumN_le h set what k (by omega)
    obtain ⟨y, hy, e2⟩ := one_le h (show k < n by omega) what
    rw [sumN, e, e2]
    split
    · exact ⟨x + y, by omega, nI_add x y⟩
    · exact ⟨x, by omega, by show nI x + nI 0 = _; rw [nI_add]; rfl⟩
theorem add_sub4 (a b c d : Int32) : a - b + (c - d) = a + c - (b + d) := by
  simp only [Int32.sub_eq_add_neg, Int32.neg_add]
  ac_rfl
theorem hld_spare {n : Nat} {r : RR} (h : Inv n r) (set : Int32) : (0 ≤ sumN r set 2 n - sumN r set 3 n) ↔ hld r n set = true := by
  obtain ⟨x, hx, e⟩ := sumN_le h set 2 n (Nat.le_refl _)
  obtain ⟨y, hy, e2⟩ := sumN_le h set 3 n (Nat.le_refl _)
  have hn := h.le
  rw [hld, e, e2, decide_eq_true_eq, nI_leI (by omega) (by omega), Int32.le_iff_toInt_le, pk_sub_toInt (by omega) (by omega)]
  show (0 : Int32).toInt ≤ _ ↔ _
  have : (0 : Int32).toInt = 0 := rfl
  rw [this]; omega
def sayB (n : Nat) (p : Int32) : Bool := decide (0 ≤ p.toInt ∧ p.toInt < (n : Int))
def womB (p : Int32) : Bool := decide (0 ≤ p.toInt ∧ p.toInt < 4)
theorem sayB_iff {n : Nat} (hn : n ≤ 9) {p : Int32} : sayB n p = true ↔ ∃ t, t < n ∧ p = nI t := by
  rw [sayB, decide_eq_true_eq]
  constructor
  · intro ⟨h1, h2⟩
    exact ⟨p.toInt.toNat, by omega, Int32.toInt_inj.mp (by rw [nI_toInt (by omega)]; omega)⟩
  · rintro ⟨t, ht, rfl⟩
    rw [nI_toInt (by omega)]; omega
theorem womB_iff {p : Int32} : womB p = true ↔ ∃ t, t < 4 ∧ p = nI t := by
  rw [womB, decide_eq_true_eq]
  constructor
  · intro ⟨h1, h2⟩
    exact ⟨p.toInt.toNat, by omega, Int32.toInt_inj.mp (by rw [nI_toInt (by omega)]; omega)⟩
  · rintro ⟨t, ht, rfl⟩
    rw [nI_toInt (by omega)]; omega
theorem wom_t {p : Int32} (h0 : ¬ p < 0) (h1 : ¬ 4 ≤ p) : womB p = true := by
  rw [womB, decide_eq_true_eq]
  rw [Int32.lt_iff_toInt_lt] at h0; rw [Int32.le_iff_toInt_le] at h1
  have a : (0 : Int32).toInt = 0 := rfl
  have b : (4 : Int32).toInt = 4 := rfl
  omega
theorem wom_f1 {p : Int32} (h0 : p < 0) : womB p = false := by
  rw [womB, decide_eq_false_iff_not]
  rw [Int32.lt_iff_toInt_lt] at h0
  have a : (0 : Int32).toInt = 0 := rfl
  omega
theorem wom_f2 {p : Int32} (h0 : 4 ≤ p) : womB p = false := by
  rw [womB, decide_eq_false_iff_not]
  rw [Int32.le_iff_toInt_le] at h0
  have b : (4 : Int32).toInt = 4 := rfl
  omega
theorem womB_in {p : Int32} : (0 ≤ p ∧ p ≤ 3) ↔ womB p = true := by
  rw [womB, decide_eq_true_eq, Int32.le_iff_toInt_le, Int32.le_iff_toInt_le]
  have a : (0 : Int32).toInt = 0 := rfl
  have b : (3 : Int32).toInt = 3 := rfl
  omega
theorem sayB_t {n : Nat} {x p : Int32} (hx : x = nI n) (hn : n ≤ 9) (h0 : ¬ p < 0) (h1 : ¬ x ≤ p) : sayB n p = true := by
  subst hx
  rw [sayB, decide_eq_true_eq]
  rw [Int32.lt_iff_toInt_lt] at h0; rw [Int32.le_iff_toInt_le, nI_toInt (by omega)] at h1
  have a : (0 : Int32).toInt = 0 := rfl
  omega
theorem sayB_f1 {n : Nat} {p : Int32} (h0 : p < 0) : sayB n p = false := by
  rw [sayB, decide_eq_false_iff_not]
  rw [Int32.lt_iff_toInt_lt] at h0
  have a : (0 : Int32).toInt = 0 := rfl
  omega
theorem sayB_f2 {n : Nat} {x p : Int32} (hx : x = nI n) (hn : n ≤ 9) (h1 : x ≤ p) : sayB n p = false := by
  subst hx
  rw [sayB, decide_eq_false_iff_not]
  rw [Int32.le_iff_toInt_le, nI_toInt (by omega)] at h1
  omega
theorem say9 {n : Nat} {p : Int32} (hn : n ≤ 9) (h : sayB n p = true) : ¬ 9 ≤ p := by
  rw [sayB, decide_eq_true_eq] at h
  rw [Int32.le_iff_toInt_le]
  have b : (9 : Int32).toInt = 9 := rfl
  omega
theorem sayB_in {n : Nat} (hn : n ≤ 9) {x p : Int32} (hx : x = nI n) : (0 ≤ p ∧ p ≤ x - 1) ↔ sayB n p = true := by
  subst hx
  have key : ∀ n, n ≤ 9 → (nI n - 1).toInt = (n : Int) - 1 := by
    have : ∀ n, n < 10 → (nI n - 1).toInt = (n : Int) - 1 := by decide +kernel
    exact fun n hn => this n (by omega)
  rw [sayB, decide_eq_true_eq, Int32.le_iff_toInt_le, Int32.le_iff_toInt_le, key n hn]
  have a : (0 : Int32).toInt = 0 := rfl
  omega
theorem every_n : ∀ n, n ≤ 9 → (1 : Int32) <<< (nI n &&& 31) - 1 = mk (fun _ => true) n := by
  have : ∀ n, n < 10 → (1 : Int32) <<< (nI n &&& 31) - 1 = mk (fun _ => true) n := by decide +kernel
  exact fun n hn => this n (by omega)
def wrnN (r : RR) : Nat → Int32
  | 0 => 0
  | t + 1 => wrnN r t + r (oF t 3)
/-- each saying is about a woman -/
def Abt (n : Nat) (r : RR) : Prop := ∀ t, t < n → ∃ a, a < 4 ∧ r (oF t 2) = nI a
theorem n_m1 {x : Int32} : x &&& ((0 : Int32) ^^^ (-1)) = x := by
  apply bt_ext
  intro i hi
  rw [bt_and, bt_n _ hi, bt_0]; simp
theorem Rep.tl0 {n : Nat} {r : RR} {u : TK} (h : Rep n r u) (hlo : u.lo = 0) {w : Nat} (hw : w < 4) : u.tl w = abS r n (nI w) := by
  have h1 := h.htl hw
  rw [hlo, n_m1] at h1
  exact h1
theorem Rep.tl_of {n : Nat} {r : RR} {u : TK} (h : Rep n r u) (hlo : u.lo = 0) {w t : Nat} (hw : w < 4) (ht : t < n) (e : r (oF t 2) = nI w) : bt (u.tl w) t = true := by
  rw [h.tl0 hlo hw, bt_abS h.le]; simp [ht, e]
theorem Rep.tl_is {n : Nat} {r : RR} {u : TK} (h : Rep n r u) (hlo : u.lo = 0) {w t : Nat} (hw : w < 4) (ht : t < n) (e : bt (u.tl w) t = true) : r (oF t 2) = nI w := by
  rw [h.tl0 hlo hw, bt_abS h.le] at e; simpa [ht] using e
theorem cpy0 {f g : Nat → Int32} {n : Int32} {N j : Nat} (hN : n.toNatClampNeg = N) (hj : j < N) : va_cpy f g (0 : Int32).toNatClampNeg (0 : Int32).toNatClampNeg n.toNatClampNeg j = f j := by
  subst hN
  have h0 : (0 : Int32).toNatClampNeg = 0 := rfl
  unfold va_cpy
  rw [h0, if_pos ⟨Nat.zero_le _, by omega⟩, Nat.zero_add, Nat.sub_zero]
theorem min_lst (a b : Int32) : (if b < a then b else a) = lst a b := by
  unfold lst
  by_cases h1 : b < a
  · by_cases h2 : a < b
    · rw [Int32.lt_iff_toInt_lt] at h1 h2; omega
    · rw [if_pos h1, if_neg h2]
  · by_cases h2 : a < b
    · rw [if_neg h1, if_pos h2]
    · rw [if_neg h1, if_neg h2]
      rw [Int32.lt_iff_toInt_lt] at h1 h2
      exact Int32.toInt_inj.mp (by omega)
def wrF (wn : Nat → Int32) (set : Int32) : Nat → (Nat → Int32)
  | 0 => wn
  | t + 1 => if bt set t = true then upd (wrF wn set t) t (lst 9 (wrF wn set t t + 1)) else wrF wn set t
def bdT (u : TK) (r : RR) (n w : Nat) : TK := if nst r n (nI w) = 0 then u else (u.sz, u.dy, lst 999 (u.rb + 1), u.ins &&& (nst r n (nI w) ^^^ (-1)), u.fo ||| b1 w, u.fl + 1, u.uw, u.lo, u.kd, u.fg, u.wn, u.tl)
def clT (tl : Nat → Int32) (x : Int32) : Nat → (Nat → Int32)
  | 0 => tl
  | k + 1 => upd (clT tl x k) k (clT tl x k k &&& (x ^^^ (-1)))
def saF (tl : Nat → Int32) (t w : Nat) : Nat → Int32 := upd (clT tl (b1 t) 4) w (clT tl (b1 t) 4 w ||| b1 t)
theorem womB_ite {p : Int32} : (if 0 ≤ p ∧ p ≤ 3 then (1 : Int32) else 0) = if womB p = true then 1 else 0 := by
  simp only [womB_in]

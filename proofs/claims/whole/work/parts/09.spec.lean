/-! ===== what the numbers of a talk say: a row r of 49 numbers (0 many, 1 day, 2 robbed, 3 kept, then five for each saying: kind, figure, about, worn, in) ===== -/
theorem pd_I : parseFieldDescriptor "I" = some .int := by decide +kernel
theorem pd_Z : parseFieldDescriptor "Z" = some .boolean := by decide +kernel
def oF (t k : Nat) : Nat := 4 + 5 * t + k
theorem oF_lt {t k : Nat} (ht : t < 9) (hk : k < 5) : oF t k < 49 := by unfold oF; omega
theorem oF_inj {t k t' k' : Nat} (hk : k < 5) (hk' : k' < 5) : oF t k = oF t' k' ↔ t = t' ∧ k = k' := by unfold oF; omega
theorem oF_big (t k : Nat) : 4 ≤ oF t k := by unfold oF; omega
theorem oF_of {x y z : Int32} {t k : Nat} (hz : z = 4 + 5 * x + y) (hx : x = nI t) (hy : y = nI k) : z = nI (oF t k) := by
  subst hx; subst hy
  have h4 : (4 : Int32) = nI 4 := rfl
  have h5 : (5 : Int32) = nI 5 := rfl
  rw [hz, h4, h5, pk_mul, nI_add, nI_add]; rfl
abbrev RR : Type := Nat → Int32
/-- there are n sayings, and each number is in its range -/
def Inv (n : Nat) (r : RR) : Prop := n ≤ 9 ∧ r 0 = nI n ∧ ∀ t, t < n →
  (∃ k, k < 6 ∧ r (oF t 0) = nI k) ∧ (∃ f, f < 10 ∧ r (oF t 1) = nI f) ∧ ((∃ a, a < 4 ∧ r (oF t 2) = nI a) ∨ r (oF t 2) = -9) ∧ (∃ w, w < 10 ∧ r (oF t 3) = nI w) ∧ (∃ b, b < 2 ∧ r (oF t 4) = nI b)
theorem Inv.le {n : Nat} {r : RR} (h : Inv n r) : n ≤ 9 := h.1
theorem Inv.n0 {n : Nat} {r : RR} (h : Inv n r) : r 0 = nI n := h.2.1
def frs (r : RR) (t : Nat) : Int32 := if r (oF t 1) - r (oF t 3) < 0 then 0 else r (oF t 1) - r (oF t 3)
def softK (k x : Int32) : Int32 := if k = 1 then x + 3 else if k = 2 then 0 else if k = 3 then x / 2 else if k = 4 then 1 else if k = 5 then (if 4 < x then 2 * (x + 3) else 0) else x
def bindsK (k x : Int32) : Int32 := if k = 1 then 0 else if k = 5 then 0 else if k = 2 then x / 2 + 2 else if k = 4 then x / 2 + 5 else 1
def weighsK (k x : Int32) : Int32 := if k = 2 then 2 else if k = 3 then (if x < 3 then 0 else 1) else if k = 4 then 3 else 1
def one (r : RR) (what : Int32) (t : Nat) : Int32 := if what = 1 then softK (r (oF t 0)) (frs r t) else if what = 2 then bindsK (r (oF t 0)) (frs r t) else weighsK (r (oF t 0)) (frs r t)
def sumN (r : RR) (set what : Int32) : Nat → Int32
  | 0 => 0
  | t + 1 => sumN r set what t + (if bt set t = true then one r what t else 0)
def herP (r : RR) (w inn : Int32) : Nat → Bool := fun t => decide (r (oF t 2) = w) && decide (r (oF t 4) = inn)
def nst (r : RR) (n : Nat) (w : Int32) : Int32 := mk (herP r w 1) n
def sad (r : RR) (n : Nat) (w : Int32) : Int32 := mk (herP r w 0) n
def inS (r : RR) (n : Nat) : Int32 := mk (fun t => decide (r (oF t 4) = 1)) n
def hld (r : RR) (n : Nat) (set : Int32) : Bool := decide (sumN r set 3 n ≤ sumN r set 2 n)
def lst (a b : Int32) : Int32 := if a < b then a else b
/-! switches, by their values -/
section XS
variable {p : Program} {l : Launch} {e : Env} {R : Room} {s : State} {m : MethodId} {args : Array Value} {below : List Frame} {meth : Method} {c : Code} {H : Heap} {locs : List Loc} {cells slots : Nat} {Q : State → Prop}
variable {cc : ByteArray} {pc : Nat} {ls : Array Slot} {rest : List Value}
theorem xs_tin (hx : p.tables.exec = Jvm.exec) (hb : c.code = cc) {dflt lo hi : Int} {offs : Array Int} {len : Nat} {x : Int32} (k : Int) {off : Int} {tgt : Nat} {xk : Int32} (hdg : decode cc pc = .ok (.tableswitch dflt lo hi offs, len)) (hxk : x = xk) (hk : xk.toInt = k) (h1 : ¬ k < lo) (h2 : ¬ hi < k) (ho : offs[(k - lo).toNat]? = some off) (ht : (pc : Int) + off = (tgt : Int))
    (kk : W p l e R s m args below meth c H locs cells slots Q (F0 m tgt ls rest)) : W p l e R s m args below meth c H locs cells slots Q (F0 m pc ls (.int x :: rest)) := by
  subst hxk; subst hk
  exact lv_tableIn hx hb hdg h1 h2 ho ht kk
def xs_all (lo hi : Int) (ks : List Int32) : Bool := (List.range (hi - lo + 1).toNat).all (fun i => (ks.map Int32.toInt).contains (lo + i))
theorem xs_tout (hx : p.tables.exec = Jvm.exec) (hb : c.code = cc) {dflt lo hi : Int} {offs : Array Int} {len : Nat} {x : Int32} {tgt : Nat} {ks : List Int32} (hdg : decode cc pc = .ok (.tableswitch dflt lo hi offs, len)) (hks : ∀ k ∈ ks, ¬ x = k) (ha : xs_all lo hi ks = true) (ht : (pc : Int) + dflt = (tgt : Int))
    (kk : W p l e R s m args below meth c H locs cells slots Q (F0 m tgt ls rest)) : W p l e R s m args below meth c H locs cells slots Q (F0 m pc ls (.int x :: rest)) := by
  refine lv_tableOut hx hb hdg ?_ ht kk
  by_cases h1 : x.toInt < lo
  · exact Or.inl h1
  · by_cases h2 : hi < x.toInt
    · exact Or.inr h2
    · exfalso
      have h3 := List.all_eq_true.mp ha (x.toInt - lo).toNat (List.mem_range.mpr (by omega))
      rw [List.contains_iff_mem] at h3
      obtain ⟨k, hk, he⟩ := List.mem_map.mp h3
      exact hks k hk (Int32.toInt_inj.mp (by rw [he]; omega))
theorem xs_lin (hx : p.tables.exec = Jvm.exec) (hb : c.code = cc) {dflt : Int} {ps : Array (Int × Int)} {len : Nat} {x : Int32} (k : Int) {off : Int} {tgt : Nat} {xk : Int32} (hdg : decode cc pc = .ok (.lookupswitch dflt ps, len)) (hxk : x = xk) (hp : (ps.toList.zip (ps.toList.drop 1)).all (fun (a, next) => a.1 < next.1) = true) (ho : Op.lookupswitch.offset ps.toList dflt xk.toInt = off) (ht : (pc : Int) + off = (tgt : Int))
    (kk : W p l e R s m args below meth c H locs cells slots Q (F0 m tgt ls rest)) : W p l e R s m args below meth c H locs cells slots Q (F0 m pc ls (.int x :: rest)) := by
  subst hxk
  exact lv_lookup hx hb hdg hp ho ht kk
theorem xs_osw {x : Int32} {d : Int} : ∀ (ps : List (Int × Int)) (ks : List Int32), (∀ k ∈ ks, ¬ x = k) → ps.map (·.1) = ks.map Int32.toInt → Op.lookupswitch.offset ps d x.toInt = d
  | [], _, _, _ => rfl
  | (a, o) :: r, [], _, h => by cases h
  | (a, o) :: r, k :: ks, hk, h => by
    simp only [List.map_cons, List.cons.injEq] at h
    rw [lv_osw (hk k List.mem_cons_self) h.1.symm]
    exact xs_osw r ks (fun k h => hk k (List.mem_cons_of_mem _ h)) h.2
theorem xs_lout (hx : p.tables.exec = Jvm.exec) (hb : c.code = cc) {dflt : Int} {ps : Array (Int × Int)} {len : Nat} {x : Int32} {tgt : Nat} {ks : List Int32} (hdg : decode cc pc = .ok (.lookupswitch dflt ps, len)) (hks : ∀ k ∈ ks, ¬ x = k) (hm : ps.toList.map (·.1) = ks.map Int32.toInt) (hp : (ps.toList.zip (ps.toList.drop 1)).all (fun (a, next) => a.1 < next.1) = true) (ht : (pc : Int) + dflt = (tgt : Int))
    (kk : W p l e R s m args below meth c H locs cells slots Q (F0 m tgt ls rest)) : W p l e R s m args below meth c H locs cells slots Q (F0 m pc ls (.int x :: rest)) :=
  lv_lookup hx hb hdg hp (xs_osw _ ks hks hm) ht kk
end XS
/-- the first t below n with p, else n -/
def ff (p : Nat → Bool) : Nat → Nat
  | 0 => 0
  | n + 1 => if ff p n < n then ff p n else if p n = true then n else n + 1
theorem ff_le (p : Nat → Bool) : ∀ n, ff p n ≤ n
  | 0 => Nat.le_refl _
  | n + 1 => by
    rw [ff]; split
    · omega
    · split <;> omega
theorem ff_none {p : Nat → Bool} {n : Nat} (h : ∀ j, j < n → p j = false) : ff p n = n := by
  induction n with
  | zero => rfl
  | succ n ih => rw [ff, ih (fun j hj => h j (by omega)), if_neg (Nat.lt_irrefl _), if_neg (by rw [h n (by omega)]; simp)]
theorem ff_eq {p : Nat → Bool} {n t : Nat} (ht : t < n) (hp : p t = true) (h : ∀ j, j < t → p j = false) : ff p n = t := by
  induction n with
  | zero => omega
  | succ n ih =>
    rw [ff]
    by_cases q : t < n
    · rw [ih q, if_pos q]
    · have e : t = n := by omega
      subst e
      rw [ff_none h, if_neg (Nat.lt_irrefl _), if_pos hp]
theorem ff_lt {p : Nat → Bool} {n : Nat} (h : ff p n < n) : p (ff p n) = true ∧ ∀ j, j < ff p n → p j = false := by
  induction n with
  | zero => omega
  | succ n ih =>
    rw [ff] at h ⊢
    by_cases q : ff p n < n
    · rw [if_pos q]; exact ih q
    · rw [if_neg q] at h ⊢
      have e : ∀ j, j < n → p j = false := by
        intro j hj
        cases hb : p j with
        | false => rfl
        | true =>
          exfalso
          have key : ∀ k, k ≤ n → j < k → ff p k < k := by
            intro k hk hjk
            induction k with
            | zero => omega
            | succ k ihk =>
              rw [ff]
              by_cases z : j < k
              · rw [if_pos (ihk (by omega) z)]; have := ihk (by omega) z; omega
              · have : j = k := by omega
                subst this
                by_cases y : ff p j < j
                · rw [if_pos y]; omega
                · rw [if_neg y, if_pos hb]; omega
          exact q (key n (Nat.le_refl _) hj)
      by_cases hp : p n = true
      · rw [if_pos hp]; exact ⟨hp, e⟩
      · rw [if_neg hp] at h; omega
theorem ff_none_iff {p : Nat → Bool} {n : Nat} (h : ¬ ff p n < n) : ∀ j, j < n → p j = false := by
  intro j hj
  cases hb : p j with
  | false => rfl
  | true =>
    exfalso
    apply h
    clear h
    induction n with
    | zero => omega
    | succ k ihk =>
      rw [ff]
      by_cases z : j < k
      · rw [if_pos (ihk z)]; have := ihk z; omega
      · have : j = k := by omega
        subst this
        by_cases y : ff p j < j
        · rw [if_pos y]; omega
        · rw [if_neg y, if_pos hb]; omega
theorem inS_step {r : RR} {i b : Nat} (hi : i < 32) (hb : b < 2) (e : r (oF i 4) = nI b) : inS r i ||| r (oF i 4) <<< (nI i &&& 31) = inS r (i + 1) := by
  rw [inS, inS, mk, e]
  rcases (show b = 0 ∨ b = 1 by omega) with rfl | rfl
  · have h1 : (nI 0) <<< (nI i &&& 31) = 0 := by
      have : ∀ i, i < 32 → (nI 0) <<< (nI i &&& 31) = 0 := by decide +kernel
      exact this i hi
    have h2 : ¬ nI 0 = 1 := by decide
    rw [h1]; simp [h2]
  · have h2 : nI 1 = 1 := by decide
    simp only [h2, decide_true, if_true]; rfl
def kndOf (c : Int32) : Int32 := if c = 103 then 0 else if c = 112 then 1 else if c = 109 then 2 else if c = 104 then 3 else if c = 116 then 4 else if c = 108 then 5 else -9
theorem bool_t {r : Int32} {b : Bool} (hr : r = if b = true then 1 else 0) (c : ¬ r = 0) : b = true := by
  cases b with
  | true => rfl
  | false => exact absurd hr (by simpa using c)
theorem bool_f {r : Int32} {b : Bool} (hr : r = if b = true then 1 else 0) (c : r = 0) : b = false := by
  cases b with
  | false => rfl
  | true => rw [c] at hr; exact absurd hr (by decide)
theorem hx_t {x y : Int32} {i : Nat} (e : y = nI i) (hi : i < 32) (c : (x >>> (y &&& 31)) &&& 1 = 1) : bt x i = true := by
  subst e; exact (hx_iff x hi).1 c
theorem hx_f {x y : Int32} {i : Nat} (e : y = nI i) (hi : i < 32) (c : ¬ (x >>> (y &&& 31)) &&& 1 = 1) : bt x i = false := by
  subst e
  cases h : bt x i with
  | false => rfl
  | true => exact absurd ((hx_iff x hi).2 h) c

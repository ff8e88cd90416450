/-! ===== how a row changes: wear, fall, take, a day, days, one more ===== -/
theorem us {f : RR} {k : Nat} {x : Int32} : upd f k x k = x := pk_us
theorem un {f : RR} {k j : Nat} {x : Int32} (h : j ≠ k) : upd f k x j = f j := pk_un h
theorem un_o {f : RR} {t k j : Nat} {x : Int32} (h : j < 4) : upd f (oF t k) x j = f j := pk_un (by have := oF_big t k; omega)
theorem un_s {f : RR} {t k j : Nat} {x : Int32} (h : j < 4) : upd f j x (oF t k) = f (oF t k) := pk_un (by have := oF_big t k; omega)
theorem upd_self (f : RR) (k : Nat) : upd f k (f k) = f := by
  funext j
  by_cases q : j = k
  · subst q; exact us
  · exact un q
def okv (j : Nat) (x : Int32) : Prop := (j = 0 → ∃ k, k < 6 ∧ x = nI k) ∧ (j = 1 → ∃ f, f < 10 ∧ x = nI f) ∧ (j = 2 → (∃ a, a < 4 ∧ x = nI a) ∨ x = -9) ∧ (j = 3 → ∃ w, w < 10 ∧ x = nI w) ∧ (j = 4 → ∃ b, b < 2 ∧ x = nI b)
theorem Inv.get {n : Nat} {r : RR} (h : Inv n r) {t j : Nat} (ht : t < n) (hj : j < 5) : okv j (r (oF t j)) := by
  obtain ⟨a, b, c, d, e⟩ := h.2.2 t ht
  refine ⟨?_, ?_, ?_, ?_, ?_⟩ <;> (intro q; subst q; assumption)
theorem Inv.of {n : Nat} {r : RR} (hn : n ≤ 9) (h0 : r 0 = nI n) (h : ∀ t, t < n → ∀ j, j < 5 → okv j (r (oF t j))) : Inv n r :=
  ⟨hn, h0, fun t ht => ⟨(h t ht 0 (by omega)).1 rfl, (h t ht 1 (by omega)).2.1 rfl, (h t ht 2 (by omega)).2.2.1 rfl, (h t ht 3 (by omega)).2.2.2.1 rfl, (h t ht 4 (by omega)).2.2.2.2 rfl⟩⟩
theorem Inv.u3 {n : Nat} {r : RR} (h : Inv n r) {k : Nat} (h1 : 1 ≤ k) (h2 : k < 4) (x : Int32) : Inv n (upd r k x) :=
  Inv.of h.le (by rw [un (by omega)]; exact h.n0) (fun t ht j hj => by rw [un_s h2]; exact h.get ht hj)
theorem Inv.uo {n : Nat} {r : RR} (h : Inv n r) (t : Nat) {j : Nat} (hj : j < 5) {x : Int32} (hx : okv j x) : Inv n (upd r (oF t j) x) := by
  refine Inv.of h.le (by rw [un_o (by omega)]; exact h.n0) (fun t' ht' j' hj' => ?_)
  by_cases q : oF t' j' = oF t j
  · rw [q, us]
    have := (oF_inj hj' hj).1 q
    rw [this.2]; exact hx
  · rw [un q]; exact h.get ht' hj'
theorem okv_0 {x : Int32} {k : Nat} (hk : k < 6) (e : x = nI k) : okv 0 x := ⟨fun _ => ⟨k, hk, e⟩, by omega, by omega, by omega, by omega⟩
theorem okv_1 {x : Int32} {k : Nat} (hk : k < 10) (e : x = nI k) : okv 1 x := ⟨by omega, fun _ => ⟨k, hk, e⟩, by omega, by omega, by omega⟩
theorem okv_2 {x : Int32} {k : Nat} (hk : k < 4) (e : x = nI k) : okv 2 x := ⟨by omega, by omega, fun _ => Or.inl ⟨k, hk, e⟩, by omega, by omega⟩
theorem okv_2n : okv 2 (-9) := ⟨by omega, by omega, fun _ => Or.inr rfl, by omega, by omega⟩
theorem okv_3 {x : Int32} {k : Nat} (hk : k < 10) (e : x = nI k) : okv 3 x := ⟨by omega, by omega, by omega, fun _ => ⟨k, hk, e⟩, by omega⟩
theorem okv_4 {x : Int32} {k : Nat} (hk : k < 2) (e : x = nI k) : okv 4 x := ⟨by omega, by omega, by omega, by omega, fun _ => ⟨k, hk, e⟩⟩
theorem okv_4_0 : okv 4 0 := okv_4 (k := 0) (by omega) rfl
theorem okv_4_1 : okv 4 1 := okv_4 (k := 1) (by omega) rfl
theorem lst_9 : ∀ w, w < 10 → ∃ z, z < 10 ∧ lst 9 (nI w + 1) = nI z := by
  have : ∀ w, w < 10 → lst 9 (nI w + 1) = nI (if w = 9 then 9 else w + 1) := by decide +kernel
  intro w hw
  exact ⟨if w = 9 then 9 else w + 1, by split <;> omega, this w hw⟩
theorem okv_lst {x : Int32} (h : okv 3 x) : okv 3 (lst 9 (x + 1)) := by
  obtain ⟨w, hw, e⟩ := h.2.2.2.1 rfl
  obtain ⟨z, hz, e2⟩ := lst_9 w hw
  rw [e]; exact okv_3 hz e2
def wearW (r : RR) (t : Nat) : RR := upd r (oF t 3) (lst 9 (r (oF t 3) + 1))
def clrN (r : RR) (set : Int32) : Nat → RR
  | 0 => r
  | t + 1 => if bt set t = true then upd (clrN r set t) (oF t 4) 0 else clrN r set t
def fall (r : RR) (n : Nat) (w : Int32) : RR := if nst r n w = 0 then r else upd (clrN r (nst r n w) n) 2 (lst 999 (clrN r (nst r n w) n 2 + 1))
def wearN (r : RR) : Nat → RR
  | 0 => r
  | t + 1 => if nI t = wearN r t 3 then wearN r t else wearW (wearN r t) t
def wrA (r : RR) (i : Nat) : RR := if r 1 - r 1 / 3 * 3 = 0 then wearN r i else r
def tkW (r : RR) (n : Nat) (w : Int32) : RR := if ff (herP r w 0) n < n then upd r (oF (ff (herP r w 0) n) 4) 1 else r
def tks (r : RR) (n : Nat) : Nat → RR
  | 0 => r
  | w + 1 => tkW (tks r n w) n (nI w)
def flR (r : RR) (n : Nat) : Nat → RR
  | 0 => r
  | w + 1 => if hld (flR r n w) n (nst (flR r n w) n (nI w)) = true then flR r n w else fall (flR r n w) n (nI w)
def flS (r : RR) (n : Nat) : Nat → Int32
  | 0 => 0
  | w + 1 => if hld (flR r n w) n (nst (flR r n w) n (nI w)) = true then flS r n w else flS r n w ||| b1 w
def dayA (r : RR) (n : Nat) : RR := tks (wrA (upd r 1 (r 1 + 1)) n) n 4
def dayR (r : RR) (n : Nat) : RR := flR (dayA r n) n 4
def dayS (r : RR) (n : Nat) : Int32 := flS (dayA r n) n 4
def dsR (r : RR) (n : Nat) : Nat → RR
  | 0 => r
  | k + 1 => dayR (dsR r n k) n
def dsV (r : RR) (n : Nat) : Nat → Nat
  | 0 => 0
  | k + 1 => dsV r n k + cntN (dayS (dsR r n k) n) 10
def rnN (r : RR) : Nat → RR
  | 0 => r
  | t + 1 => if rnN r t (oF t 4) = 1 then wearW (rnN r t) t else rnN r t
def addR (r : RR) (n : Nat) (k f w : Int32) : RR :=
  let r5 := upd (upd (upd (upd (upd r (oF n 0) k) (oF n 1) f) (oF n 2) w) (oF n 3) 0) (oF n 4) 0
  upd r5 0 (r5 0 + 1)
theorem Inv.iwearW {n : Nat} {r : RR} (h : Inv n r) {t : Nat} (ht : t < n) : Inv n (wearW r t) := h.uo t (by omega) (okv_lst (h.get ht (by omega)))
theorem Inv.iclrN {n : Nat} {r : RR} (h : Inv n r) (set : Int32) : ∀ k, Inv n (clrN r set k)
  | 0 => h
  | k + 1 => by
    rw [clrN]; split
    · exact (h.iclrN set k).uo k (by omega) okv_4_0
    · exact h.iclrN set k
theorem Inv.ifall {n : Nat} {r : RR} (h : Inv n r) (w : Int32) : Inv n (fall r n w) := by
  rw [fall]; split
  · exact h
  · exact (h.iclrN _ n).u3 (by omega) (by omega) _
theorem Inv.iwearN {n : Nat} {r : RR} (h : Inv n r) : ∀ k, k ≤ n → Inv n (wearN r k)
  | 0, _ => h
  | k + 1, hk => by
    rw [wearN]; split
    · exact h.iwearN k (by omega)
    · exact (h.iwearN k (by omega)).iwearW (by omega)
theorem Inv.iwrA {n : Nat} {r : RR} (h : Inv n r) {i : Nat} (hi : i ≤ n) : Inv n (wrA r i) := by
  rw [wrA]; split
  · exact h.iwearN i hi
  · exact h
theorem Inv.itkW {n : Nat} {r : RR} (h : Inv n r) (w : Int32) : Inv n (tkW r n w) := by
  rw [tkW]; split
  · exact h.uo _ (by omega) okv_4_1
  · exact h
theorem Inv.itks {n : Nat} {r : RR} (h : Inv n r) : ∀ k, Inv n (tks r n k)
  | 0 => h
  | k + 1 => (h.itks k).itkW _
theorem Inv.iflR {n : Nat} {r : RR} (h : Inv n r) : ∀ k, Inv n (flR r n k)
  | 0 => h
  | k + 1 => by
    rw [flR]; split
    · exact h.iflR k
    · exact (h.iflR k).ifall _
theorem Inv.idayA {n : Nat} {r : RR} (h : Inv n r) : Inv n (dayA r n) := ((h.u3 (by omega) (by omega) _).iwrA (Nat.le_refl _)).itks 4
theorem Inv.idayR {n : Nat} {r : RR} (h : Inv n r) : Inv n (dayR r n) := h.idayA.iflR 4
theorem Inv.idsR {n : Nat} {r : RR} (h : Inv n r) : ∀ k, Inv n (dsR r n k)
  | 0 => h
  | k + 1 => (h.idsR k).idayR
theorem Inv.irnN {n : Nat} {r : RR} (h : Inv n r) : ∀ k, k ≤ n → Inv n (rnN r k)
  | 0, _ => h
  | k + 1, hk => by
    rw [rnN]; split
    · exact (h.irnN k (by omega)).iwearW (by omega)
    · exact h.irnN k (by omega)
theorem Inv.iaddR {n : Nat} {r : RR} (h : Inv n r) (hn : n < 9) {k f w : Nat} (hk : k < 6) (hf : f < 10) (hw : w < 4) : Inv (n + 1) (addR r n (nI k) (nI f) (nI w)) := by
  refine Inv.of (by omega) ?_ (fun t ht j hj => ?_)
  · show upd _ 0 _ 0 = _
    rw [us, un_o (by omega), un_o (by omega), un_o (by omega), un_o (by omega), un_o (by omega), h.n0, nI_1]
  · show okv j (upd _ 0 _ (oF t j))
    rw [un_s (by omega)]
    by_cases q4 : oF t j = oF n 4
    · rw [q4, us, ((oF_inj hj (by omega)).1 q4).2]; exact okv_4_0
    rw [un q4]
    by_cases q3 : oF t j = oF n 3
    · rw [q3, us, ((oF_inj hj (by omega)).1 q3).2]; exact okv_3 (k := 0) (by omega) rfl
    rw [un q3]
    by_cases q2 : oF t j = oF n 2
    · rw [q2, us, ((oF_inj hj (by omega)).1 q2).2]; exact okv_2 hw rfl
    rw [un q2]
    by_cases q1 : oF t j = oF n 1
    · rw [q1, us, ((oF_inj hj (by omega)).1 q1).2]; exact okv_1 hf rfl
    rw [un q1]
    by_cases q0 : oF t j = oF n 0
    · rw [q0, us, ((oF_inj hj (by omega)).1 q0).2]; exact okv_0 hk rfl
    rw [un q0]
    refine h.get ?_ hj
    rcases Nat.lt_or_ge t n with z | z
    · exact z
    · have e : t = n := by omega
      subst e
      rcases (show j = 0 ∨ j = 1 ∨ j = 2 ∨ j = 3 ∨ j = 4 by omega) with rfl | rfl | rfl | rfl | rfl
      · exact absurd rfl q0
      · exact absurd rfl q1
      · exact absurd rfl q2
      · exact absurd rfl q3
      · exact absurd rfl q4
theorem wearW_lo {r : RR} {t j : Nat} (h : j < 4) : wearW r t j = r j := un_o h
theorem wearN_lo {r : RR} {j : Nat} (h : j < 4) : ∀ k, wearN r k j = r j
  | 0 => rfl
  | k + 1 => by
    rw [wearN]; split
    · exact wearN_lo h k
    · rw [wearW_lo h]; exact wearN_lo h k
theorem wrA_lo {r : RR} {i j : Nat} (h : j < 4) : wrA r i j = r j := by
  rw [wrA]; split
  · exact wearN_lo h i
  · rfl
/-- a cell's row is what its places say -/
theorem xa_same {D : va_G} {cI : ClassId} {ws : va_W} {H : Heap} (hP : va_P D vwCl ws H) (q : Nat) {a n : Nat} {f : Nat → Int32} (ha : ws[q]? = some (a, .inl (cI, n, .inl f))) (g : Nat → Int32) (hg : ∀ j, j < n → g j = f j) : va_P D vwCl (ws.set q (a, .inl (cI, n, .inl g))) H := by
  have hl := (List.getElem?_eq_some_iff.mp ha).1
  have e : vp_cell cI (n, .inl g) = vp_cell cI (n, .inl f) := by
    rw [vp_cell_i, vp_cell_i]
    show ({ cls := cI, slots := _, vm := .none } : Cell) = { cls := cI, slots := _, vm := .none }
    congr 1
    apply Array.ext
    · simp
    · intro i h1 h2
      simp only [Array.getElem_ofFn]
      rw [hg i (by simpa using h1)]
  intro k x hk
  by_cases hkp : k = q
  · subst hkp
    rw [List.getElem?_set_self hl] at hk
    cases hk
    show H[a]? = some (vp_cell cI (n, .inl g))
    rw [e]; exact hP k _ ha
  · rw [List.getElem?_set_ne (Ne.symm hkp)] at hk
    exact hP k x hk
theorem cp_step {f g g2 : RR} {i : Nat} (hg : ∀ j, g2 j = if j < i then f j else g j) (j : Nat) : upd g2 i (f i) j = if j < i + 1 then f j else g j := by
  by_cases q : j = i
  · subst q; rw [us, if_pos (by omega)]
  · rw [un q, hg j]
    by_cases z : j < i
    · rw [if_pos z, if_pos (by omega)]
    · rw [if_neg z, if_neg (by omega)]

/-! ===== how a Talk's cells go along with the row ===== -/
theorem inS_congr {r r' : RR} {n : Nat} (h : ∀ t, t < n → r' (oF t 4) = r (oF t 4)) : inS r' n = inS r n := mk_congr (fun t ht => by rw [h t ht])
theorem abS_congr {r r' : RR} {n : Nat} (h : ∀ t, t < n → r' (oF t 2) = r (oF t 2)) (w : Int32) : abS r' n w = abS r n w := mk_congr (fun t ht => by rw [h t ht])
theorem Rep.low {n : Nat} {r r' : RR} {u : TK} (h : Rep n r u) (h0 : r' 0 = r 0) (h3 : r' 3 = r 3) (ho : ∀ t j, t < n → j < 5 → r' (oF t j) = r (oF t j)) {dy rb fo fl : Int32} (hd : dy = r' 1) (hb : rb = r' 2) : Rep n r' (u.sz, dy, rb, u.ins, fo, fl, u.uw, u.lo, u.kd, u.fg, u.wn, u.tl) := by
  refine ⟨Inv.of h.le (by rw [h0]; exact h.inv.n0) (fun t ht j hj => by rw [ho t j ht hj]; exact h.inv.get ht hj), h.hsz, hd, hb, ?_, fun t ht => ⟨?_, ?_, ?_⟩, fun w hw => ?_, h.hil, fun t ht => ?_⟩
  · show u.ins = _
    rw [inS_congr (fun t ht => ho t 4 ht (by omega))]; exact h.hins
  · rw [ho t 0 ht (by omega)]; exact h.hkd ht
  · rw [ho t 1 ht (by omega)]; exact h.hfg ht
  · rw [ho t 3 ht (by omega)]; exact h.hwn ht
  · rw [abS_congr (fun t ht => ho t 2 ht (by omega))]; exact h.htl hw
  · rw [h3]; exact h.huw ht
theorem Rep.tick {n : Nat} {r : RR} {u : TK} (h : Rep n r u) : Rep n (upd r 1 (r 1 + 1)) (u.sz, u.dy + 1, u.rb, u.ins, u.fo, u.fl, u.uw, u.lo, u.kd, u.fg, u.wn, u.tl) :=
  h.low (un (by omega)) (un (by omega)) (fun t j _ _ => un_s (by omega)) (by rw [us, h.hdy]) (by rw [un (by omega)]; exact h.hrb)
def wearP (r : RR) (p : Nat → Bool) : Nat → RR
  | 0 => r
  | k + 1 => if p k = true then wearW (wearP r p k) k else wearP r p k
theorem wearP_lo {r : RR} {p : Nat → Bool} {j : Nat} (h : j < 4) : ∀ k, wearP r p k j = r j
  | 0 => rfl
  | k + 1 => by
    rw [wearP]; split
    · rw [wearW_lo h]; exact wearP_lo h k
    · exact wearP_lo h k
theorem wearP_o {r : RR} {p : Nat → Bool} {t j : Nat} (hj : j < 5) (h : j ≠ 3) : ∀ k, wearP r p k (oF t j) = r (oF t j)
  | 0 => rfl
  | k + 1 => by
    rw [wearP]; split
    · rw [wearW, un (fun q => h ((oF_inj hj (by omega)).1 q).2)]; exact wearP_o hj h k
    · exact wearP_o hj h k
theorem Inv.iwearP {n : Nat} {r : RR} (h : Inv n r) (p : Nat → Bool) : ∀ k, k ≤ n → Inv n (wearP r p k)
  | 0, _ => h
  | k + 1, hk => by
    rw [wearP]; split
    · exact (h.iwearP p k (by omega)).iwearW (by omega)
    · exact h.iwearP p k (by omega)
theorem wrF_eq {n : Nat} {r : RR} {p : Nat → Bool} {wn : Nat → Int32} {set : Int32} (hw : ∀ t, t < n → wn t = r (oF t 3)) (hs : ∀ t, t < n → bt set t = p t) : ∀ k, k ≤ n → ∀ t, t < n → wrF wn set k t = wearP r p k (oF t 3)
  | 0, _, t, ht => hw t ht
  | k + 1, hk, t, ht => by
    have ih := wrF_eq hw hs k (by omega)
    rw [wrF, wearP, hs k (by omega)]
    split
    · rw [wearW]
      by_cases q : t = k
      · subst q; rw [us, us, ih t ht]
      · rw [un q, un (fun z => q ((oF_inj (by omega) (by omega)).1 z).1)]; exact ih t ht
    · exact ih t ht
theorem Rep.wear {n : Nat} {r : RR} {u : TK} (h : Rep n r u) {p : Nat → Bool} {set : Int32} (hs : ∀ t, t < n → bt set t = p t) : Rep n (wearP r p n) (u.sz, u.dy, u.rb, u.ins, u.fo, u.fl, u.uw, u.lo, u.kd, u.fg, wrF u.wn set n, u.tl) := by
  refine ⟨h.inv.iwearP p n (Nat.le_refl _), h.hsz, ?_, ?_, ?_, fun t ht => ⟨?_, ?_, ?_⟩, fun w hw => ?_, h.hil, fun t ht => ?_⟩
  · rw [wearP_lo (by omega)]; exact h.hdy
  · rw [wearP_lo (by omega)]; exact h.hrb
  · show u.ins = _
    rw [inS_congr (fun t ht => wearP_o (by omega) (by omega) n)]; exact h.hins
  · rw [wearP_o (by omega) (by omega)]; exact h.hkd ht
  · rw [wearP_o (by omega) (by omega)]; exact h.hfg ht
  · exact wrF_eq (fun t ht => h.hwn ht) hs n (Nat.le_refl _) t ht
  · rw [abS_congr (fun t ht => wearP_o (by omega) (by omega) n)]; exact h.htl hw
  · rw [wearP_lo (by omega)]; exact h.huw ht
theorem wearN_P (r : RR) : ∀ k, wearN r k = wearP r (fun t => !decide (nI t = r 3)) k
  | 0 => rfl
  | k + 1 => by
    rw [wearN, wearP, wearN_lo (by omega), wearN_P r k]
    by_cases q : nI k = r 3
    · simp [q]
    · simp [q]
theorem rnN_P (r : RR) : ∀ k, rnN r k = wearP r (fun t => decide (r (oF t 4) = 1)) k
  | 0 => rfl
  | k + 1 => by
    rw [rnN, wearP, rnN_P r k, wearP_o (by omega) (by omega)]
    by_cases q : r (oF k 4) = 1
    · simp [q]
    · simp [q]
theorem Rep.wearA {n : Nat} {r : RR} {u : TK} (h : Rep n r u) (c : u.dy - u.dy / 3 * 3 = 0) : Rep n (wrA r n) (u.sz, u.dy, u.rb, u.ins, u.fo, u.fl, u.uw, u.lo, u.kd, u.fg, wrF u.wn (u.uw ^^^ (-1)) n, u.tl) := by
  rw [h.hdy] at c
  rw [wrA, if_pos c, wearN_P]
  have := h.le
  exact h.wear (fun t ht => by rw [bt_n _ (by omega), h.huw ht])
theorem Rep.wearB {n : Nat} {r : RR} {u : TK} (h : Rep n r u) (c : ¬ u.dy - u.dy / 3 * 3 = 0) : Rep n (wrA r n) u := by
  rw [h.hdy] at c
  rw [wrA, if_neg c]; exact h
theorem Rep.rains {n : Nat} {r : RR} {u : TK} (h : Rep n r u) : Rep n (rnN r n) (u.sz, u.dy, u.rb, u.ins, u.fo, u.fl, u.uw, u.lo, u.kd, u.fg, wrF u.wn u.ins n, u.tl) := by
  rw [rnN_P]
  exact h.wear (fun t ht => by rw [h.hins, bt_inS h.le]; simp [ht])
theorem herP_bt {n : Nat} {r : RR} (hn : n ≤ 9) (w : Int32) {i : Nat} (hi : i < n) : bt (sad r n w) i = herP r w 0 i := by
  rw [bt_sad hn]; simp [hi, herP]
theorem Rep.take {n : Nat} {r : RR} {u : TK} (h : Rep n r u) {w : Nat} (hw : w < 4) : Rep n (tkW r n (nI w)) (u.sz, u.dy, u.rb, u.ins ||| (sad r n (nI w) &&& -sad r n (nI w)), u.fo, u.fl, u.uw, u.lo, u.kd, u.fg, u.wn, u.tl) := by
  have hn := h.le
  by_cases q : ff (herP r (nI w) 0) n < n
  · obtain ⟨hp, hm⟩ := ff_lt q
    have hlow : sad r n (nI w) &&& -sad r n (nI w) = b1 (ff (herP r (nI w) 0) n) := low_1 (by omega) (by rw [herP_bt hn _ q]; exact hp) (fun j hj => by rw [herP_bt hn _ (by omega)]; exact hm j hj)
    rw [hlow, tkW, if_pos q]
    generalize ff (herP r (nI w) 0) n = t at q hp hm hlow ⊢
    have hab : r (oF t 2) = nI w ∧ r (oF t 4) = 0 := by simpa [herP] using hp
    have hlt : bt u.lo t = false := by
      have h1 := congrArg (fun x => bt x t) (h.htl hw)
      simp only [bt_and, bt_n _ (show t < 32 by omega), bt_abS hn] at h1
      cases hb : bt u.lo t with
      | false => rfl
      | true => rw [hb] at h1; simp [q, hab.1] at h1
    refine ⟨h.inv.uo t (by omega) okv_4_1, h.hsz, ?_, ?_, ?_, fun t' ht' => ⟨?_, ?_, ?_⟩, fun w' hw' => ?_, ?_, fun t' ht' => ?_⟩
    · rw [un_o (by omega)]; exact h.hdy
    · rw [un_o (by omega)]; exact h.hrb
    · show u.ins ||| b1 t = inS _ n
      apply bt_ext
      intro i hi
      rw [bt_or, bt_b1 (by omega), h.hins, bt_inS hn, bt_inS hn]
      by_cases e : i = t
      · subst e; rw [us]; simp [q]
      · rw [un (fun z => e ((oF_inj (by omega) (by omega)).1 z).1)]; simp [e]
    · rw [un (fun z => by have := ((oF_inj (by omega) (by omega)).1 z).2; omega)]; exact h.hkd ht'
    · rw [un (fun z => by have := ((oF_inj (by omega) (by omega)).1 z).2; omega)]; exact h.hfg ht'
    · rw [un (fun z => by have := ((oF_inj (by omega) (by omega)).1 z).2; omega)]; exact h.hwn ht'
    · rw [abS_congr (r := r) (fun t' _ => un (fun z => by have := ((oF_inj (by omega) (by omega)).1 z).2; omega))]; exact h.htl hw'
    · show (u.ins ||| b1 t) &&& u.lo = 0
      apply bt_ext
      intro i hi
      have h2 := congrArg (fun x => bt x i) h.hil
      simp only [bt_and, bt_0] at h2
      rw [bt_and, bt_or, bt_b1 (by omega), bt_0]
      by_cases e : i = t
      · subst e; rw [hlt]; simp
      · simp [e, h2]
    · rw [un_o (by omega)]; exact h.huw ht'
  · have h0 : sad r n (nI w) = 0 := mk_none (fun i hi => ff_none_iff q i hi)
    rw [h0, low_0, tkW, if_neg q]
    have : u.ins ||| 0 = u.ins := by
      apply bt_ext; intro i hi; rw [bt_or, bt_0]; simp
    rw [this]; exact h
theorem clrN_lo {r : RR} {set : Int32} {j : Nat} (h : j < 4) : ∀ k, clrN r set k j = r j
  | 0 => rfl
  | k + 1 => by
    rw [clrN]; split
    · rw [un_o h]; exact clrN_lo h k
    · exact clrN_lo h k
theorem clrN_o {r : RR} {set : Int32} {t j : Nat} (hj : j < 5) (h : j ≠ 4) : ∀ k, clrN r set k (oF t j) = r (oF t j)
  | 0 => rfl
  | k + 1 => by
    rw [clrN]; split
    · rw [un (fun q => h ((oF_inj hj (by omega)).1 q).2)]; exact clrN_o hj h k
    · exact clrN_o hj h k
theorem clrN_4 {r : RR} {set : Int32} {t : Nat} : ∀ k, clrN r set k (oF t 4) = if t < k ∧ bt set t = true then 0 else r (oF t 4)
  | 0 => by rw [if_neg (by omega)]; rfl
  | k + 1 => by
    rw [clrN]
    by_cases e : t = k
    · subst e
      by_cases hb : bt set t = true
      · rw [if_pos hb, us, if_pos ⟨by omega, hb⟩]
      · rw [if_neg hb, if_neg (fun q => hb q.2), clrN_4 t, if_neg (by omega)]
    · have e2 : (t < k + 1 ∧ bt set t = true) ↔ (t < k ∧ bt set t = true) := by
        constructor <;> (rintro ⟨a, b⟩; exact ⟨by omega, b⟩)
      simp only [e2]
      split
      · rw [un (fun z => e ((oF_inj (by omega) (by omega)).1 z).1)]; exact clrN_4 k
      · exact clrN_4 k
theorem Rep.bring {n : Nat} {r : RR} {u : TK} (h : Rep n r u) {w : Nat} (hw : w < 4) : Rep n (fall r n (nI w)) (bdT u r n w) := by
  have hn := h.le
  by_cases q : nst r n (nI w) = 0
  · rw [fall, bdT, if_pos q, if_pos q]; exact h
  rw [fall, bdT, if_neg q, if_neg q]
  refine ⟨(h.inv.iclrN _ n).u3 (by omega) (by omega) _, h.hsz, ?_, ?_, ?_, fun t ht => ⟨?_, ?_, ?_⟩, fun w' hw' => ?_, ?_, fun t ht => ?_⟩
  · rw [un (by omega), clrN_lo (by omega)]; exact h.hdy
  · rw [us, clrN_lo (by omega), ← h.hrb]
  · show u.ins &&& _ = inS _ n
    rw [inS_congr (r := clrN r (nst r n (nI w)) n) (fun t ht => un_s (by omega))]
    apply bt_ext
    intro i hi
    rw [bt_and, bt_n _ hi, h.hins, bt_inS hn, bt_inS hn, clrN_4]
    by_cases hb : bt (nst r n (nI w)) i = true
    · have h0 : ¬ (0 : Int32) = 1 := by decide
      rw [hb]
      by_cases hi2 : i < n
      · rw [if_pos ⟨hi2, rfl⟩]; simp [h0]
      · simp [hi2]
    · have hb2 : bt (nst r n (nI w)) i = false := by simpa using hb
      rw [hb2, if_neg (fun z => by cases z.2)]; simp
  · rw [un_s (by omega), clrN_o (by omega) (by omega)]; exact h.hkd ht
  · rw [un_s (by omega), clrN_o (by omega) (by omega)]; exact h.hfg ht
  · rw [un_s (by omega), clrN_o (by omega) (by omega)]; exact h.hwn ht
  · rw [abS_congr (r := r) (fun t ht => by rw [un_s (by omega), clrN_o (by omega) (by omega)])]; exact h.htl hw'
  · show (u.ins &&& _) &&& u.lo = 0
    apply bt_ext
    intro i hi
    have h2 := congrArg (fun x => bt x i) h.hil
    simp only [bt_and, bt_0] at h2
    rw [bt_and, bt_and, bt_0]
    cases ha : bt u.ins i <;> cases hb : bt u.lo i <;> simp_all
  · rw [un (by omega), clrN_lo (by omega)]; exact h.huw ht
theorem sumN_0 (r : RR) (what : Int32) : ∀ n, sumN r 0 what n = 0
  | 0 => rfl
  | n + 1 => by rw [sumN, sumN_0 r what n, if_neg (by rw [bt_0]; simp)]; rfl
theorem hld_0 (r : RR) (n : Nat) : hld r n 0 = true := by
  rw [hld, sumN_0, sumN_0]; rfl
theorem cnt_or {x : Int32} {w : Nat} (hx : bt x w = false) (hw32 : w < 32) : ∀ n, w < n → cntN (x ||| b1 w) n = cntN x n + 1
  | 0, h => by omega
  | n + 1, h => by
    rw [cntN, cntN, bt_or, bt_b1 hw32]
    by_cases e : w = n
    · subst e
      have : cntN (x ||| b1 w) w = cntN x w := cntN_congr (fun i hi => by
        rw [bt_or, bt_b1 hw32]
        have : ¬ i = w := by omega
        simp [this])
      rw [this, hx]; simp
    · have e2 : ¬ n = w := fun z => e z.symm
      rw [cnt_or hx hw32 n (by omega)]; simp only [e2, decide_false, Bool.or_false]; omega
theorem flS_bt (r : RR) (n : Nat) : ∀ w, w ≤ 32 → ∀ i, w ≤ i → bt (flS r n w) i = false
  | 0, _, i, _ => bt_0 i
  | w + 1, hw, i, hi => by
    rw [flS]; split
    · exact flS_bt r n w (by omega) i (by omega)
    · rw [bt_or, flS_bt r n w (by omega) i (by omega), bt_b1 (by omega)]
      have : ¬ i = w := by omega
      simp [this]
/-- what a day adds to the falls, w of its nests looked at -/
def FlR (u v : TK) (r : RR) (n w : Nat) : Prop := v.fo = u.fo ||| flS r n w ∧ v.fl = u.fl + nI (cntN (flS r n w) 10) ∧ v.uw = u.uw ∧ v.lo = u.lo
def Sm (u v : TK) : Prop := v.fo = u.fo ∧ v.fl = u.fl ∧ v.uw = u.uw ∧ v.lo = u.lo
theorem or_0 (x : Int32) : x ||| 0 = x := by
  apply bt_ext; intro i hi; rw [bt_or, bt_0]; simp
theorem FlR.start {u v : TK} (h : Sm u v) (r : RR) (n : Nat) : FlR u v r n 0 := by
  obtain ⟨a, b, c, d⟩ := h
  refine ⟨by rw [a, flS, or_0], ?_, c, d⟩
  rw [b, flS, cntN_0.2 (fun i _ => bt_0 i)]
  show _ = _ + nI 0
  rw [nI_0, Int32.add_zero]
theorem FlR.hold {u v : TK} {r : RR} {n w : Nat} (h : FlR u v r n w) (c : hld (flR r n w) n (nst (flR r n w) n (nI w)) = true) : FlR u v r n (w + 1) := by
  unfold FlR at h ⊢
  rw [flS, if_pos c]; exact h
theorem FlR.fallen {u v : TK} {r : RR} {n w : Nat} (h : FlR u v r n w) (hw : w < 4) (c : hld (flR r n w) n (nst (flR r n w) n (nI w)) = false) : FlR u (bdT v (flR r n w) n w) r n (w + 1) := by
  have q : ¬ nst (flR r n w) n (nI w) = 0 := fun q => by rw [q, hld_0] at c; cases c
  obtain ⟨h1, h2, h3, h4⟩ := h
  rw [bdT, if_neg q]
  unfold FlR
  rw [flS, if_neg (by rw [c]; simp)]
  refine ⟨?_, ?_, h3, h4⟩
  · show v.fo ||| b1 w = _
    rw [h1]
    apply bt_ext; intro i hi; simp only [bt_or, Bool.or_assoc]
  · show v.fl + 1 = _
    rw [h2, cnt_or (flS_bt r n w (by omega) w (Nat.le_refl _)) (by omega) 10 (by omega), Int32.add_assoc, nI_1]
def FsR (u v : TK) (r : RR) (n k : Nat) : Prop := v.fl = u.fl + nI (dsV r n k) ∧ v.uw = u.uw ∧ v.lo = u.lo
theorem FsR.start (u : TK) (r : RR) (n : Nat) : FsR u u r n 0 := by
  refine ⟨?_, rfl, rfl⟩
  rw [dsV, nI_0, Int32.add_zero]
theorem FsR.day {u v v2 : TK} {r : RR} {n k : Nat} (h : FsR u v r n k) (hd : FlR v v2 (dayA (dsR r n k) n) n 4) : FsR u v2 r n (k + 1) := by
  obtain ⟨h1, h2, h3⟩ := h
  obtain ⟨d1, d2, d3, d4⟩ := hd
  refine ⟨?_, d3.trans h2, d4.trans h3⟩
  rw [d2, h1, dsV, Int32.add_assoc, nI_add]; rfl

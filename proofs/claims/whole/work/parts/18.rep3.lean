/-! ===== a Talk told more, about another, turned over, left out ===== -/
theorem bt_n2 (x : Int32) (t : Nat) (ht : t < 32) {i : Nat} (hi : i < 32) : bt (x &&& (b1 t ^^^ (-1))) i = (bt x i && !decide (i = t)) := by
  rw [bt_and, bt_n _ hi, bt_b1 ht]
theorem Rep.turn {n : Nat} {r : RR} {u : TK} (h : Rep n r u) (hlo : u.lo = 0) {t : Nat} (ht : t < n) : Rep n (upd r (oF t 4) (r (oF t 4) ^^^ 1)) (u.sz, u.dy, u.rb, u.ins ^^^ b1 t, u.fo, u.fl, u.uw, u.lo, u.kd, u.fg, u.wn, u.tl) := by
  have hn := h.le
  have hv : okv 4 (r (oF t 4) ^^^ 1) ∧ (r (oF t 4) ^^^ 1 = 1 ↔ ¬ r (oF t 4) = 1) := by
    rcases h.inv.in01 ht with q | q
    · rw [q]; exact ⟨okv_4_1, by decide⟩
    · rw [q]; exact ⟨okv_4_0, by decide⟩
  refine ⟨h.inv.uo t (by omega) hv.1, h.hsz, ?_, ?_, ?_, fun t' ht' => ⟨?_, ?_, ?_⟩, fun w' hw' => ?_, ?_, fun t' ht' => ?_⟩
  · rw [un_o (by omega)]; exact h.hdy
  · rw [un_o (by omega)]; exact h.hrb
  · show u.ins ^^^ b1 t = inS _ n
    apply bt_ext
    intro i hi
    rw [bt_xor, bt_b1 (by omega), h.hins, bt_inS hn, bt_inS hn]
    by_cases e : i = t
    · subst e; rw [us]
      by_cases z : r (oF i 4) = 1
      · have := (not_congr hv.2).2 (fun q => q z); simp [ht, z, this]
      · have := hv.2.2 z; simp [ht, z, this]
    · rw [un (fun z => e ((oF_inj (by omega) (by omega)).1 z).1)]; simp [e]
  · rw [un (fun z => by have := ((oF_inj (by omega) (by omega)).1 z).2; omega)]; exact h.hkd ht'
  · rw [un (fun z => by have := ((oF_inj (by omega) (by omega)).1 z).2; omega)]; exact h.hfg ht'
  · rw [un (fun z => by have := ((oF_inj (by omega) (by omega)).1 z).2; omega)]; exact h.hwn ht'
  · rw [abS_congr (r := r) (fun t' _ => un (fun z => by have := ((oF_inj (by omega) (by omega)).1 z).2; omega))]; exact h.htl hw'
  · show (u.ins ^^^ b1 t) &&& u.lo = 0
    rw [hlo]
    apply bt_ext; intro i hi; rw [bt_and, bt_0]; simp
  · rw [un_o (by omega)]; exact h.huw ht'
def setAb (r : RR) (t : Nat) (w : Int32) : RR := upd (upd r (oF t 2) w) (oF t 4) 0
theorem clT_at (tl : Nat → Int32) (x : Int32) : ∀ n k, clT tl x n k = if k < n then tl k &&& (x ^^^ (-1)) else tl k
  | 0, k => by rw [if_neg (by omega)]; rfl
  | n + 1, k => by
    rw [clT]
    by_cases e : k = n
    · subst e; rw [us, clT_at tl x k k, if_neg (by omega), if_pos (by omega)]
    · rw [un e, clT_at tl x n k]
      by_cases z : k < n
      · rw [if_pos z, if_pos (by omega)]
      · rw [if_neg z, if_neg (by omega)]
theorem saF_at (tl : Nat → Int32) (t w : Nat) {k : Nat} (hk : k < 4) (hw : w < 4) : saF tl t w k = if k = w then (tl k &&& (b1 t ^^^ (-1))) ||| b1 t else tl k &&& (b1 t ^^^ (-1)) := by
  rw [saF]
  by_cases e : k = w
  · subst e; rw [us, clT_at, if_pos hk, if_pos rfl]
  · rw [un e, clT_at, if_pos hk, if_neg e]
theorem nI_inj4 {a b : Nat} (ha : a < 4) (hb : b < 4) : nI a = nI b ↔ a = b := nI_eq (by omega) (by omega)
theorem setAb_2 {r : RR} {t t' : Nat} {w : Int32} : setAb r t w (oF t' 2) = if t' = t then w else r (oF t' 2) := by
  rw [setAb, un (fun z => by have := ((oF_inj (by omega) (by omega)).1 z).2; omega)]
  by_cases e : t' = t
  · subst e; rw [us, if_pos rfl]
  · rw [un (fun z => e ((oF_inj (by omega) (by omega)).1 z).1), if_neg e]
theorem setAb_4 {r : RR} {t t' : Nat} {w : Int32} : setAb r t w (oF t' 4) = if t' = t then 0 else r (oF t' 4) := by
  rw [setAb]
  by_cases e : t' = t
  · subst e; rw [us, if_pos rfl]
  · rw [un (fun z => e ((oF_inj (by omega) (by omega)).1 z).1), un (fun z => by have := ((oF_inj (by omega) (by omega)).1 z).2; omega), if_neg e]
theorem setAb_o {r : RR} {t t' j : Nat} {w : Int32} (hj : j < 5) (h2 : j ≠ 2) (h4 : j ≠ 4) : setAb r t w (oF t' j) = r (oF t' j) := by
  rw [setAb, un (fun z => h4 ((oF_inj (by omega) (by omega)).1 z).2), un (fun z => h2 ((oF_inj (by omega) (by omega)).1 z).2)]
theorem setAb_lo {r : RR} {t j : Nat} {w : Int32} (h : j < 4) : setAb r t w j = r j := by rw [setAb, un_o h, un_o h]
theorem Inv.isetAb {n : Nat} {r : RR} (h : Inv n r) (t : Nat) {w : Int32} (hw : okv 2 w) : Inv n (setAb r t w) := (h.uo t (by omega) hw).uo t (by omega) okv_4_0
theorem Rep.say {n : Nat} {r : RR} {u : TK} (h : Rep n r u) (hlo : u.lo = 0) {t w : Nat} (ht : t < n) (hw : w < 4) : Rep n (setAb r t (nI w)) (u.sz, u.dy, u.rb, u.ins &&& (b1 t ^^^ (-1)), u.fo, u.fl, u.uw, u.lo, u.kd, u.fg, u.wn, saF u.tl t w) := by
  have hn := h.le
  refine ⟨h.inv.isetAb t (okv_2 hw rfl), h.hsz, ?_, ?_, ?_, fun t' ht' => ⟨?_, ?_, ?_⟩, fun w' hw' => ?_, ?_, fun t' ht' => ?_⟩
  · rw [setAb_lo (by omega)]; exact h.hdy
  · rw [setAb_lo (by omega)]; exact h.hrb
  · show u.ins &&& _ = inS _ n
    apply bt_ext
    intro i hi
    rw [bt_n2 _ t (by omega) hi, h.hins, bt_inS hn, bt_inS hn, setAb_4]
    by_cases e : i = t
    · have h0 : ¬ (0 : Int32) = 1 := by decide
      simp [e, h0]
    · simp [e]
  · rw [setAb_o (by omega) (by omega) (by omega)]; exact h.hkd ht'
  · rw [setAb_o (by omega) (by omega) (by omega)]; exact h.hfg ht'
  · rw [setAb_o (by omega) (by omega) (by omega)]; exact h.hwn ht'
  · show saF u.tl t w w' &&& (u.lo ^^^ (-1)) = _
    rw [hlo, n_m1, saF_at _ _ _ hw' hw]
    apply bt_ext
    intro i hi
    rw [bt_abS hn, setAb_2]
    have h1 := bt_abS (r := r) hn (nI w') i
    rw [← h.tl0 hlo hw'] at h1
    by_cases e : w' = w
    · rw [if_pos e, bt_or, bt_n2 _ t (by omega) hi, bt_b1 (by omega), h1]
      by_cases z : i = t
      · subst z; simp [ht, e]
      · simp [z]
    · rw [if_neg e, bt_n2 _ t (by omega) hi, h1]
      by_cases z : i = t
      · have : ¬ nI w = nI w' := fun q => e ((nI_inj4 hw hw').1 q).symm
        simp [z, this]
      · simp [z]
  · show (u.ins &&& _) &&& u.lo = 0
    rw [hlo]
    apply bt_ext; intro i hi; rw [bt_and, bt_0]; simp
  · rw [setAb_lo (by omega)]; exact h.huw ht'
theorem Rep.leave {n : Nat} {r : RR} {u : TK} (h : Rep n r u) (hlo : u.lo = 0) {t : Nat} (ht : t < n) : Rep n (setAb r t (-9)) (u.sz, u.dy, u.rb, u.ins &&& ((u.lo ||| b1 t) ^^^ (-1)), u.fo, u.fl, u.uw, u.lo ||| b1 t, u.kd, u.fg, u.wn, u.tl) := by
  have hn := h.le
  have h0 : (0 : Int32) ||| b1 t = b1 t := by
    apply bt_ext; intro i hi; rw [bt_or, bt_0]; simp
  refine ⟨h.inv.isetAb t okv_2n, h.hsz, ?_, ?_, ?_, fun t' ht' => ⟨?_, ?_, ?_⟩, fun w' hw' => ?_, ?_, fun t' ht' => ?_⟩
  · rw [setAb_lo (by omega)]; exact h.hdy
  · rw [setAb_lo (by omega)]; exact h.hrb
  · show u.ins &&& _ = inS _ n
    rw [hlo, h0]
    apply bt_ext
    intro i hi
    rw [bt_n2 _ t (by omega) hi, h.hins, bt_inS hn, bt_inS hn, setAb_4]
    by_cases e : i = t
    · have h0 : ¬ (0 : Int32) = 1 := by decide
      simp [e, h0]
    · simp [e]
  · rw [setAb_o (by omega) (by omega) (by omega)]; exact h.hkd ht'
  · rw [setAb_o (by omega) (by omega) (by omega)]; exact h.hfg ht'
  · rw [setAb_o (by omega) (by omega) (by omega)]; exact h.hwn ht'
  · show u.tl w' &&& ((u.lo ||| b1 t) ^^^ (-1)) = _
    rw [hlo, h0]
    apply bt_ext
    intro i hi
    rw [bt_abS hn, setAb_2, bt_n2 _ t (by omega) hi, h.tl0 hlo hw', bt_abS hn]
    by_cases z : i = t
    · have : ¬ (-9 : Int32) = nI w' := by
        have k : ∀ w, w < 4 → ¬ (-9 : Int32) = nI w := by decide +kernel
        exact k w' hw'
      simp [z, this]
    · simp [z]
  · show (u.ins &&& ((u.lo ||| b1 t) ^^^ (-1))) &&& (u.lo ||| b1 t) = 0
    apply bt_ext; intro i hi; rw [bt_and, bt_and, bt_n _ hi, bt_0]
    cases bt u.ins i <;> cases bt (u.lo ||| b1 t) i <;> rfl
  · rw [setAb_lo (by omega)]; exact h.huw ht'
theorem addR_0 {r : RR} {n : Nat} {k f w : Int32} : addR r n k f w 0 = r 0 + 1 := by
  show upd _ 0 _ 0 = _
  rw [us, un_o (by omega), un_o (by omega), un_o (by omega), un_o (by omega), un_o (by omega)]
theorem addR_lo {r : RR} {n j : Nat} {k f w : Int32} (h : j < 4) (h0 : j ≠ 0) : addR r n k f w j = r j := by
  show upd _ 0 _ j = _
  rw [un h0, un_o h, un_o h, un_o h, un_o h, un_o h]
theorem addR_o {r : RR} {n t j : Nat} {k f w : Int32} (hj : j < 5) (ht : t ≠ n) : addR r n k f w (oF t j) = r (oF t j) := by
  have e : ∀ j', j' < 5 → oF t j ≠ oF n j' := fun j' hj' z => ht ((oF_inj hj hj').1 z).1
  show upd _ 0 _ (oF t j) = _
  rw [un_s (by omega), un (e 4 (by omega)), un (e 3 (by omega)), un (e 2 (by omega)), un (e 1 (by omega)), un (e 0 (by omega))]
theorem addR_n {r : RR} {n j : Nat} {k f w : Int32} (hj : j < 5) : addR r n k f w (oF n j) = if j = 0 then k else if j = 1 then f else if j = 2 then w else 0 := by
  have e : ∀ a b, a < 5 → b < 5 → a ≠ b → oF n a ≠ oF n b := fun a b ha hb hab z => hab ((oF_inj ha hb).1 z).2
  show upd _ 0 _ (oF n j) = _
  rw [un_s (by omega)]
  rcases (show j = 0 ∨ j = 1 ∨ j = 2 ∨ j = 3 ∨ j = 4 by omega) with rfl | rfl | rfl | rfl | rfl
  · rw [un (e 0 4 (by omega) (by omega) (by omega)), un (e 0 3 (by omega) (by omega) (by omega)), un (e 0 2 (by omega) (by omega) (by omega)), un (e 0 1 (by omega) (by omega) (by omega)), us]; rfl
  · rw [un (e 1 4 (by omega) (by omega) (by omega)), un (e 1 3 (by omega) (by omega) (by omega)), un (e 1 2 (by omega) (by omega) (by omega)), us]; rfl
  · rw [un (e 2 4 (by omega) (by omega) (by omega)), un (e 2 3 (by omega) (by omega) (by omega)), us]; rfl
  · rw [un (e 3 4 (by omega) (by omega) (by omega)), us]; rfl
  · rw [us]; rfl
theorem Inv.iaddN {n : Nat} {r : RR} (h : Inv n r) (hn : n < 9) {k f : Nat} {w : Int32} (hk : k < 6) (hf : f < 10) (hw : okv 2 w) : Inv (n + 1) (addR r n (nI k) (nI f) w) := by
  refine Inv.of (by omega) (by rw [addR_0, h.n0, nI_1]) (fun t ht j hj => ?_)
  by_cases e : t = n
  · subst e
    rw [addR_n hj]
    rcases (show j = 0 ∨ j = 1 ∨ j = 2 ∨ j = 3 ∨ j = 4 by omega) with rfl | rfl | rfl | rfl | rfl
    · exact okv_0 hk rfl
    · exact okv_1 hf rfl
    · exact hw
    · exact okv_3 (k := 0) (by omega) rfl
    · exact okv_4_0
  · rw [addR_o hj e]; exact h.get (by omega) hj
theorem Rep.more0 {n : Nat} {r : RR} {u : TK} (h : Rep n r u) (hlo : u.lo = 0) (huw : u.uw = 0) (hk3 : r 3 = -9) (hn : n < 9) {k f : Nat} (hk : k < 6) (hf : f < 10) : Rep (n + 1) (addR r n (nI k) (nI f) (-9)) (u.sz + 1, u.dy, u.rb, u.ins, u.fo, u.fl, u.uw, u.lo, upd u.kd n (nI k), upd u.fg n (nI f), upd u.wn n 0, u.tl) := by
  have hne : ∀ t, t < n → t ≠ n := fun t ht => by omega
  refine ⟨h.inv.iaddN hn hk hf okv_2n, ?_, ?_, ?_, ?_, fun t ht => ?_, fun w hw => ?_, h.hil, fun t ht => ?_⟩
  · show u.sz + 1 = _
    rw [h.hsz, nI_1]
  · rw [addR_lo (by omega) (by omega)]; exact h.hdy
  · rw [addR_lo (by omega) (by omega)]; exact h.hrb
  · show u.ins = _
    apply bt_ext
    intro i hi
    rw [h.hins, bt_inS h.le, bt_inS (by omega)]
    by_cases e : i = n
    · subst e
      have h0 : ¬ (0 : Int32) = 1 := by decide
      rw [addR_n (by omega)]; simp [h0]
    · rw [addR_o (by omega) e]
      have : (i < n + 1) ↔ (i < n) := by omega
      simp [this]
  · by_cases e : t = n
    · subst e
      refine ⟨?_, ?_, ?_⟩
      · show upd _ t _ t = _
        rw [us, addR_n (by omega)]; rfl
      · show upd _ t _ t = _
        rw [us, addR_n (by omega)]; rfl
      · show upd _ t _ t = _
        rw [us, addR_n (by omega)]; rfl
    · refine ⟨?_, ?_, ?_⟩
      · show upd _ n _ t = _
        rw [un e, addR_o (by omega) e]; exact h.hkd (by omega)
      · show upd _ n _ t = _
        rw [un e, addR_o (by omega) e]; exact h.hfg (by omega)
      · show upd _ n _ t = _
        rw [un e, addR_o (by omega) e]; exact h.hwn (by omega)
  · show u.tl w &&& (u.lo ^^^ (-1)) = _
    rw [h.htl hw]
    apply bt_ext
    intro i hi
    rw [bt_abS h.le, bt_abS (by omega)]
    by_cases e : i = n
    · subst e
      have : ¬ (-9 : Int32) = nI w := by
        have k : ∀ w, w < 4 → ¬ (-9 : Int32) = nI w := by decide +kernel
        exact k w hw
      rw [addR_n (by omega)]; simp [this]
    · rw [addR_o (by omega) e]
      have : (i < n + 1) ↔ (i < n) := by omega
      simp [this]
  · show bt u.uw t = _
    rw [huw, bt_0, addR_lo (by omega) (by omega), hk3]
    have : ¬ nI t = -9 := by
      have k : ∀ w, w < 9 → ¬ nI w = -9 := by decide +kernel
      exact k t (by omega)
    simp [this]
theorem setAb_add {r : RR} {n : Nat} {k f w : Int32} : setAb (addR r n k f (-9)) n w = addR r n k f w := by
  funext j
  by_cases e : ∃ t j', j' < 5 ∧ j = oF t j'
  · obtain ⟨t, j', hj', rfl⟩ := e
    by_cases q : t = n
    · subst q
      rcases (show j' = 2 ∨ j' = 4 ∨ (j' ≠ 2 ∧ j' ≠ 4) by omega) with rfl | rfl | ⟨h2, h4⟩
      · rw [setAb_2, if_pos rfl, addR_n (by omega)]; rfl
      · rw [setAb_4, if_pos rfl, addR_n (by omega)]; rfl
      · rw [setAb_o hj' h2 h4, addR_n hj', addR_n hj']; simp [h2]
    · rw [addR_o hj' q]
      rcases (show j' = 2 ∨ j' = 4 ∨ (j' ≠ 2 ∧ j' ≠ 4) by omega) with rfl | rfl | ⟨h2, h4⟩
      · rw [setAb_2, if_neg q, addR_o (by omega) q]
      · rw [setAb_4, if_neg q, addR_o (by omega) q]
      · rw [setAb_o hj' h2 h4, addR_o hj' q]
  · have hlt : j < 4 := by
      rcases Nat.lt_or_ge j 4 with q | q
      · exact q
      · exact absurd ⟨(j - 4) / 5, (j - 4) % 5, Nat.mod_lt _ (by omega), by unfold oF; omega⟩ e
    rw [setAb_lo hlt]
    by_cases q : j = 0
    · subst q; rw [addR_0, addR_0]
    · rw [addR_lo hlt q, addR_lo hlt q]
def tmT (u : TK) (n : Nat) (k f : Int32) (w : Nat) : TK := (u.sz + 1, u.dy, u.rb, u.ins &&& (b1 n ^^^ (-1)), u.fo, u.fl, u.uw, u.lo, upd u.kd n k, upd u.fg n f, upd u.wn n 0, saF u.tl n w)
theorem Rep.more {n : Nat} {r : RR} {u : TK} (h : Rep n r u) (hlo : u.lo = 0) (huw : u.uw = 0) (hk3 : r 3 = -9) (hn : n < 9) {k f w : Nat} (hk : k < 6) (hf : f < 10) (hw : w < 4) : Rep (n + 1) (addR r n (nI k) (nI f) (nI w)) (tmT u n (nI k) (nI f) w) := by
  have h1 := (h.more0 hlo huw hk3 hn hk hf).say hlo (show n < n + 1 by omega) hw
  rw [setAb_add] at h1
  exact h1
/-- a copy in mind -/
theorem Rep.bc {n : Nat} {r : RR} {u : TK} (h : Rep n r u) (hlo : u.lo = 0) (hk3 : r 3 = -9) : Rep n r (u.sz, u.dy, u.rb, u.ins, 0, 0, 0, 0, u.kd, u.fg, u.wn, u.tl) := by
  refine ⟨h.inv, h.hsz, h.hdy, h.hrb, h.hins, h.2.2.2.2.2.1, fun w hw => ?_, ?_, fun t ht => ?_⟩
  · have := h.htl hw
    rw [hlo] at this; exact this
  · apply bt_ext; intro i hi; rw [bt_and, bt_0]; simp [bt_0]
  · show bt 0 t = _
    rw [bt_0, hk3]
    have h9 := h.le
    have : ¬ nI t = -9 := by
      have k : ∀ w, w < 9 → ¬ nI w = -9 := by decide +kernel
      exact k t (by omega)
    simp [this]
/-- a copy in mind with a saying kept -/
theorem Rep.keep {n : Nat} {r : RR} {u : TK} (h : Rep n r u) (t : Nat) (ht : t < n) : Rep n (upd r 3 (nI t)) (u.sz, u.dy, u.rb, u.ins, u.fo, u.fl, b1 t, u.lo, u.kd, u.fg, u.wn, u.tl) := by
  have hn := h.le
  refine ⟨h.inv.u3 (by omega) (by omega) _, h.hsz, ?_, ?_, ?_, fun t' ht' => ⟨?_, ?_, ?_⟩, fun w hw => ?_, h.hil, fun t' ht' => ?_⟩
  · rw [un (by omega)]; exact h.hdy
  · rw [un (by omega)]; exact h.hrb
  · rw [inS_congr (r := r) (fun t' _ => un_s (by omega))]; exact h.hins
  · rw [un_s (by omega)]; exact h.hkd ht'
  · rw [un_s (by omega)]; exact h.hfg ht'
  · rw [un_s (by omega)]; exact h.hwn ht'
  · rw [abS_congr (r := r) (fun t' _ => un_s (by omega))]; exact h.htl hw
  · show bt (b1 t) t' = _
    rw [bt_b1 (by omega), us]
    have : (t' = t) ↔ (nI t' = nI t) := (nI_eq (by omega) (by omega)).symm
    simp [this]
theorem Rep.setW {n : Nat} {r : RR} {u : TK} (h : Rep n r u) {t v : Nat} (ht : t < n) (hv : v < 10) : Rep n (upd r (oF t 3) (nI v)) (u.sz, u.dy, u.rb, u.ins, u.fo, u.fl, u.uw, u.lo, u.kd, u.fg, upd u.wn t (nI v), u.tl) := by
  refine ⟨h.inv.uo t (by omega) (okv_3 hv rfl), h.hsz, ?_, ?_, ?_, fun t' ht' => ⟨?_, ?_, ?_⟩, fun w hw => ?_, h.hil, fun t' ht' => ?_⟩
  · rw [un_o (by omega)]; exact h.hdy
  · rw [un_o (by omega)]; exact h.hrb
  · rw [inS_congr (r := r) (fun t' _ => un (fun z => by have := ((oF_inj (by omega) (by omega)).1 z).2; omega))]; exact h.hins
  · rw [un (fun z => by have := ((oF_inj (by omega) (by omega)).1 z).2; omega)]; exact h.hkd ht'
  · rw [un (fun z => by have := ((oF_inj (by omega) (by omega)).1 z).2; omega)]; exact h.hfg ht'
  · show upd u.wn t _ t' = _
    by_cases e : t' = t
    · subst e; rw [us, us]
    · rw [un e, un (fun z => e ((oF_inj (by omega) (by omega)).1 z).1)]; exact h.hwn ht'
  · rw [abS_congr (r := r) (fun t' _ => un (fun z => by have := ((oF_inj (by omega) (by omega)).1 z).2; omega))]; exact h.htl hw
  · rw [un_o (by omega)]; exact h.huw ht'
theorem Rep.setK {n : Nat} {r : RR} {u : TK} (h : Rep n r u) {t k : Nat} (ht : t < n) (hk : k < 6) : Rep n (upd r (oF t 0) (nI k)) (u.sz, u.dy, u.rb, u.ins, u.fo, u.fl, u.uw, u.lo, upd u.kd t (nI k), u.fg, u.wn, u.tl) := by
  refine ⟨h.inv.uo t (by omega) (okv_0 hk rfl), h.hsz, ?_, ?_, ?_, fun t' ht' => ⟨?_, ?_, ?_⟩, fun w hw => ?_, h.hil, fun t' ht' => ?_⟩
  · rw [un_o (by omega)]; exact h.hdy
  · rw [un_o (by omega)]; exact h.hrb
  · rw [inS_congr (r := r) (fun t' _ => un (fun z => by have := ((oF_inj (by omega) (by omega)).1 z).2; omega))]; exact h.hins
  · show upd u.kd t _ t' = _
    by_cases e : t' = t
    · subst e; rw [us, us]
    · rw [un e, un (fun z => e ((oF_inj (by omega) (by omega)).1 z).1)]; exact h.hkd ht'
  · rw [un (fun z => by have := ((oF_inj (by omega) (by omega)).1 z).2; omega)]; exact h.hfg ht'
  · rw [un (fun z => by have := ((oF_inj (by omega) (by omega)).1 z).2; omega)]; exact h.hwn ht'
  · rw [abS_congr (r := r) (fun t' _ => un (fun z => by have := ((oF_inj (by omega) (by omega)).1 z).2; omega))]; exact h.htl hw
  · rw [un_o (by omega)]; exact h.huw ht'
theorem Rep.setF {n : Nat} {r : RR} {u : TK} (h : Rep n r u) {t k : Nat} (ht : t < n) (hk : k < 10) : Rep n (upd r (oF t 1) (nI k)) (u.sz, u.dy, u.rb, u.ins, u.fo, u.fl, u.uw, u.lo, u.kd, upd u.fg t (nI k), u.wn, u.tl) := by
  refine ⟨h.inv.uo t (by omega) (okv_1 hk rfl), h.hsz, ?_, ?_, ?_, fun t' ht' => ⟨?_, ?_, ?_⟩, fun w hw => ?_, h.hil, fun t' ht' => ?_⟩
  · rw [un_o (by omega)]; exact h.hdy
  · rw [un_o (by omega)]; exact h.hrb
  · rw [inS_congr (r := r) (fun t' _ => un (fun z => by have := ((oF_inj (by omega) (by omega)).1 z).2; omega))]; exact h.hins
  · rw [un (fun z => by have := ((oF_inj (by omega) (by omega)).1 z).2; omega)]; exact h.hkd ht'
  · show upd u.fg t _ t' = _
    by_cases e : t' = t
    · subst e; rw [us, us]
    · rw [un e, un (fun z => e ((oF_inj (by omega) (by omega)).1 z).1)]; exact h.hfg ht'
  · rw [un (fun z => by have := ((oF_inj (by omega) (by omega)).1 z).2; omega)]; exact h.hwn ht'
  · rw [abS_congr (r := r) (fun t' _ => un (fun z => by have := ((oF_inj (by omega) (by omega)).1 z).2; omega))]; exact h.htl hw
  · rw [un_o (by omega)]; exact h.huw ht'
/-- the fewest moved into or out of a set by which it holds: the best so far and how many it has -/
def fmS (r : RR) (n : Nat) (set pool : Int32) : Nat → Int32 × Nat
  | 0 => (-9, 10)
  | m + 1 => if nI m &&& (pool ^^^ (-1)) = 0 ∧ cntN (nI m) 10 < (fmS r n set pool m).2 ∧ hld r n (set ^^^ nI m) = true then (nI m, cntN (nI m) 10) else fmS r n set pool m
theorem fmS_le (r : RR) (n : Nat) (set pool : Int32) : ∀ m, (fmS r n set pool m).2 ≤ 10
  | 0 => Nat.le_refl _
  | m + 1 => by
    rw [fmS]; split
    · exact cntN_le _ _
    · exact fmS_le r n set pool m
def shS (r : RR) (n : Nat) (pool : Int32) : Nat → Int32 × Int32
  | 0 => (0, 0)
  | i + 1 => if nI (i + 1) &&& (pool ^^^ (-1)) = 0 ∧ (shS r n pool i).2 < sumN r (nI (i + 1)) 1 n ∧ hld r n (nI (i + 1)) = true then (nI (i + 1), sumN r (nI (i + 1)) 1 n) else shS r n pool i
theorem two_le {n : Nat} (h : n ≤ 9) : 2 ^ n ≤ 512 := by
  have : 2 ^ n ≤ 2 ^ 9 := Nat.pow_le_pow_right (by omega) h
  omega
theorem sh_1 {x : Int32} {n : Nat} (hx : x = nI n) (hn : n ≤ 9) : (1 : Int32) <<< (x &&& 31) = nI (2 ^ n) := by
  subst hx
  have : ∀ n, n < 10 → (1 : Int32) <<< (nI n &&& 31) = nI (2 ^ n) := by decide +kernel
  exact this n (by omega)
theorem add_sub1 (x : Int32) : x + 1 - 1 = x := by
  rw [Int32.sub_eq_add_neg, Int32.add_assoc]
  have : (1 : Int32) + -1 = 0 := by decide
  rw [this, Int32.add_zero]

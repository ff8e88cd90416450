/-! ===== what days leave as it is ===== -/
def KP (r r' : RR) : Prop := r' 3 = r 3 ∧ ∀ t, r' (oF t 2) = r (oF t 2)
theorem KP.refl (r : RR) : KP r r := ⟨rfl, fun _ => rfl⟩
theorem KP.trans {a b c : RR} (h : KP a b) (h2 : KP b c) : KP a c := ⟨h2.1.trans h.1, fun t => (h2.2 t).trans (h.2 t)⟩
theorem kp_o {r : RR} {t j : Nat} (hj : j < 5) (h2 : j ≠ 2) (x : Int32) : KP r (upd r (oF t j) x) :=
  ⟨un_o (by omega), fun t' => un (fun q => h2 ((oF_inj (by omega) hj).1 q).2.symm)⟩
theorem kp_3 {r : RR} {k : Nat} (h1 : k < 3) (x : Int32) : KP r (upd r k x) :=
  ⟨un (by omega), fun t => un (by have := oF_big t 2; omega)⟩
theorem kp_clr (r : RR) (set : Int32) : ∀ k, KP r (clrN r set k)
  | 0 => KP.refl r
  | k + 1 => by
    rw [clrN]; split
    · exact (kp_clr r set k).trans (kp_o (by omega) (by omega) _)
    · exact kp_clr r set k
theorem kp_fall (r : RR) (n : Nat) (w : Int32) : KP r (fall r n w) := by
  unfold fall; split
  · exact KP.refl r
  · exact (kp_clr r _ n).trans (kp_3 (by omega) _)
theorem kp_wear (r : RR) : ∀ k, KP r (wearN r k)
  | 0 => KP.refl r
  | k + 1 => by
    rw [wearN]; split
    · exact kp_wear r k
    · exact (kp_wear r k).trans (kp_o (by omega) (by omega) _)
theorem kp_wrA (r : RR) (i : Nat) : KP r (wrA r i) := by
  unfold wrA; split
  · exact kp_wear r i
  · exact KP.refl r
theorem kp_tk (r : RR) (n : Nat) (w : Int32) : KP r (tkW r n w) := by
  unfold tkW; split
  · exact kp_o (by omega) (by omega) _
  · exact KP.refl r
theorem kp_tks (r : RR) (n : Nat) : ∀ k, KP r (tks r n k)
  | 0 => KP.refl r
  | k + 1 => (kp_tks r n k).trans (kp_tk _ _ _)
theorem kp_fl (r : RR) (n : Nat) : ∀ k, KP r (flR r n k)
  | 0 => KP.refl r
  | k + 1 => by
    rw [flR]; split
    · exact kp_fl r n k
    · exact (kp_fl r n k).trans (kp_fall _ _ _)
theorem kp_day (r : RR) (n : Nat) : KP r (dayR r n) :=
  (((kp_3 (k := 1) (by omega) _).trans (kp_wrA _ n)).trans (kp_tks _ n 4)).trans (kp_fl _ n 4)
theorem kp_ds (r : RR) (n : Nat) : ∀ k, KP r (dsR r n k)
  | 0 => KP.refl r
  | k + 1 => (kp_ds r n k).trans (kp_day _ _)
theorem KP.abt {n : Nat} {r r' : RR} (h : KP r r') (ha : Abt n r) : Abt n r' := fun t ht => by rw [h.2 t]; exact ha t ht
theorem abt_set {n : Nat} {r : RR} (ha : Abt n r) (t : Nat) {w : Nat} (hw : w < 4) : Abt n (setAb r t (nI w)) := fun t' ht' => by
  rw [setAb_2]; split
  · exact ⟨w, hw, rfl⟩
  · exact ha t' ht'
theorem abt_add {n : Nat} {r : RR} (ha : Abt n r) (k f : Int32) {w : Nat} (hw : w < 4) : Abt (n + 1) (addR r n k f (nI w)) := fun t ht => by
  by_cases q : t = n
  · subst q; rw [addR_n (by omega)]; exact ⟨w, hw, rfl⟩
  · rw [addR_o (by omega) q]; exact ha t (by omega)
theorem dn_keep {n : Nat} {r : RR} {c a b w : Int32} (h3 : r 3 = -9) (ha : Abt n r) : (dnF n r c a b w).2.2 3 = -9 ∧ Abt (dnF n r c a b w).2.1 (dnF n r c a b w).2.2 := by
  unfold dnF
  split
  · split
    · rename_i q
      obtain ⟨x, hx, rfl⟩ := womB_iff.1 q.1
      exact ⟨(addR_lo (by omega) (by omega)).trans h3, abt_add ha _ _ hx⟩
    · exact ⟨h3, ha⟩
  split
  · split
    · have hk : KP r (upd r (oF (tN a) 4) (r (oF (tN a) 4) ^^^ 1)) := kp_o (by omega) (by omega) _
      exact ⟨hk.1.trans h3, hk.abt ha⟩
    · exact ⟨h3, ha⟩
  split
  · split
    · have hk : KP r (upd r (oF (tN a) 3) b) := kp_o (by omega) (by omega) _
      exact ⟨hk.1.trans h3, hk.abt ha⟩
    · exact ⟨h3, ha⟩
  split
  · split
    · rename_i q
      obtain ⟨x, hx, rfl⟩ := womB_iff.1 q.2
      exact ⟨(setAb_lo (by omega)).trans h3, abt_set ha _ hx⟩
    · exact ⟨h3, ha⟩
  split
  · split
    · exact ⟨(kp_fall _ _ _).1.trans h3, (kp_fall _ _ _).abt ha⟩
    · exact ⟨h3, ha⟩
  split
  · exact ⟨(kp_ds _ _ _).1.trans h3, (kp_ds _ _ _).abt ha⟩
  · exact ⟨h3, ha⟩
theorem dig_as (x y : Int32) : 10 * (x - 48) + y - 48 = 10 * (x - 48) + (y - 48) := by
  rw [Int32.sub_eq_add_neg (10 * (x - 48) + y), Int32.add_assoc, ← Int32.sub_eq_add_neg y]
theorem rs_len {h : Nat → Int32} {s : Nat} (hs : (rsF h s).1 = true) : (rsF h s).2 = s + lnN (h s) ∧ 3 ≤ lnN (h s) := by
  rw [rs_gs, gsF] at hs ⊢
  split at hs
  · exact absurd hs Bool.false_ne_true
  · rename_i q
    split at hs
    · rename_i q2
      rw [if_neg q, if_pos q2]; exact ⟨rfl, lnN_3 (by omega)⟩
    · exact absurd hs Bool.false_ne_true
theorem dn_116 (n : Nat) (r : RR) (a b w : Int32) : dnF n r 116 a b w = if sayB n a = true then (true, n, upd r (oF (tN a) 4) (r (oF (tN a) 4) ^^^ 1)) else (false, n, r) := rfl
theorem dn_119 (n : Nat) (r : RR) (a b w : Int32) : dnF n r 119 a b w = if sayB n a = true then (true, n, upd r (oF (tN a) 3) b) else (false, n, r) := rfl
theorem dn_97 (n : Nat) (r : RR) (a b w : Int32) : dnF n r 97 a b w = if sayB n a = true ∧ womB b = true then (true, n, setAb r (tN a) b) else (false, n, r) := rfl
theorem dn_98 (n : Nat) (r : RR) (a b w : Int32) : dnF n r 98 a b w = if womB a = true then (true, n, fall r n a) else (false, n, r) := rfl
theorem dn_100 (n : Nat) (r : RR) (a b w : Int32) : dnF n r 100 a b w = if isI a 1 60 = true ∧ r 1 + a ≤ 999 then (true, n, dsR r n (tN a)) else (false, n, r) := rfl
theorem ts_none {h : Nat → Int32} {s : Nat} (hs : (rsF h s).1 = true) (c1 : ¬ h s = 115) (c2 : ¬ h s = 116) (c3 : ¬ h s = 119) (c4 : ¬ h s = 97) (c5 : ¬ h s = 98) (c6 : ¬ h s = 100) : False := by
  have := (rs_len hs).2
  rw [lnN, if_neg c1, if_neg (by rintro (q | q | q) <;> contradiction), if_neg (by rintro (q | q) <;> contradiction)] at this
  omega

/-! ===== a new object whose maker makes cells of its own: what came stands behind the rest ===== -/
section XI
variable {p : Program} {l : Launch} {e : Env} {R : Room} {s : State} {m : MethodId} {args : Array Value} {below : List Frame} {meth : Method} {c : Code} {H : Heap} {locs : List Loc} {cells slots : Nat} {Q : State → Prop}
variable {cc : ByteArray} {pc : Nat} {ls : Array Slot} {rest : List Value} {D : va_G} {cI : ClassId} {A : Nat → Prop} {ws : va_W} {H0 : Heap}
variable {y : MethodName} {bytes : ByteArray} {maxL nL n index : Nat} {wl : List Cond} {rm : Room} {Ts : List Cond} {own : String} {b : Nat} {As : List Value} {W0 Wr : va_W} {st : List Value}
theorem xi_IN {host : String} {mc ms : Nat} {S : Type} {W1 : S → va_W} {post : S → Prop} (SF : CallFix p m c cc nL s args Ts own) (hM : Met l y wl rm (PRW D cI (.ref b :: As) W0 H.size) (va_Qv post (BRW D W0 H.size W1) (va_A W0 H.size)) mc ms (va_A W0 H.size)) (cw : va_CN R s args own index y host bytes maxL none wl rm mc ms n ∧ y.name = "<init>" ∧ (Cond.instanceMethod y).before args s = true) (hK : KK D cI s) (hP : va_P D vwCl ws H) (hD : va_D A ws) (hS : va_S A H0 H locs) (hA : ∀ q : Nat, H0.size ≤ q → A q)
    (isC isR : List Nat) (hC : isC.map (fun i => ws[i]?) = W0.map some) (hR : isR.map (fun i => ws[i]?) = Wr.map some) (hnc : va_nd isC = true) (hnd : va_nd isR = true) (hdis : ∀ i ∈ isR, i ∉ isC)
    (hn : As.length = n) (hsize : ls.size = nL) (hst : st = As.reverse ++ .ref b :: rest) (hW : (rest.map fun v => v.category).sum ≤ 8) (hdg : decode cc pc = .ok (.invokespecial index, 3)) (hf : cells + mc ≤ R.cells ∧ slots + ms ≤ R.slots)
    (kk : ∀ (u : S) (H1 : Heap) (locs1 : List Loc), post u → va_P D vwCl (Wr ++ W1 u) H1 → va_D A (Wr ++ W1 u) → va_S A H0 H1 locs1 → W p l e R s m args below meth c H1 locs1 (cells + mc) (slots + ms) Q (F0 m (pc + 3) ls rest)) : W p l e R s m args below meth c H locs cells slots Q (F0 m pc ls st) := by
  have hF := va_free (wc := W0) hD hS hA isC hC
  have hDc : va_D A W0 := hD.sub isC hnc hC
  have hPc : va_P D vwCl W0 H := hP.sub isC (by
    have h := congrArg (List.filterMap id) hC
    rw [List.filterMap_map, List.filterMap_map] at h
    simpa using h)
  refine va_callv (va_runIN SF hM cw (xc_preW hK hPc hDc (.ref b :: As)) rfl hn hsize hst (lv_room hW) hdg hf) hS (fun q _ h => hF q h) hF (fun u t H1 locs1 ht hvm hw hB hz1 hk1 hS1 => ?_)
  obtain ⟨hP1, hD1⟩ := hB
  rw [ht] at hP1
  obtain ⟨hP2, hD2⟩ := va_join hP hD isC isR hC hR hnd hdis hk1 hF hP1 hD1
  exact kk u H1 locs1 hw hP2 hD2 hS1
theorem xi_I {mc ms : Nat} {S : Type} {W1 : S → va_W} {post : S → Prop} (SF : CallFix p m c cc nL s args Ts own) (hM : Met l y wl rm (PRW D cI (.ref b :: As) W0 H.size) (va_Qv post (BRW D W0 H.size W1) (va_A W0 H.size)) mc ms (va_A W0 H.size)) (cw : CallB R s args own index y bytes maxL none wl rm mc ms n ∧ y.name = "<init>" ∧ (Cond.instanceMethod y).before args s = true) (hK : KK D cI s) (hP : va_P D vwCl ws H) (hD : va_D A ws) (hS : va_S A H0 H locs) (hA : ∀ q : Nat, H0.size ≤ q → A q)
    (isC isR : List Nat) (hC : isC.map (fun i => ws[i]?) = W0.map some) (hR : isR.map (fun i => ws[i]?) = Wr.map some) (hnc : va_nd isC = true) (hnd : va_nd isR = true) (hdis : ∀ i ∈ isR, i ∉ isC)
    (hn : As.length = n) (hsize : ls.size = nL) (hst : st = As.reverse ++ .ref b :: rest) (hW : (rest.map fun v => v.category).sum ≤ 8) (hdg : decode cc pc = .ok (.invokespecial index, 3)) (hf : cells + mc ≤ R.cells ∧ slots + ms ≤ R.slots)
    (kk : ∀ (u : S) (H1 : Heap) (locs1 : List Loc), post u → va_P D vwCl (Wr ++ W1 u) H1 → va_D A (Wr ++ W1 u) → va_S A H0 H1 locs1 → W p l e R s m args below meth c H1 locs1 (cells + mc) (slots + ms) Q (F0 m (pc + 3) ls rest)) : W p l e R s m args below meth c H locs cells slots Q (F0 m pc ls st) := by
  have hF := va_free (wc := W0) hD hS hA isC hC
  have hDc : va_D A W0 := hD.sub isC hnc hC
  have hPc : va_P D vwCl W0 H := hP.sub isC (by
    have h := congrArg (List.filterMap id) hC
    rw [List.filterMap_map, List.filterMap_map] at h
    simpa using h)
  refine va_callv (va_runI SF hM cw (xc_preW hK hPc hDc (.ref b :: As)) rfl hn hsize hst (lv_room hW) hdg hf) hS (fun q _ h => hF q h) hF (fun u t H1 locs1 ht hvm hw hB hz1 hk1 hS1 => ?_)
  obtain ⟨hP1, hD1⟩ := hB
  rw [ht] at hP1
  obtain ⟨hP2, hD2⟩ := va_join hP hD isC isR hC hR hnd hdis hk1 hF hP1 hD1
  exact kk u H1 locs1 hw hP2 hD2 hS1
end XI
/-! ===== nothing told yet ===== -/
abbrev zz : Nat → Int32 := fun _ => 0
def r0 : RR := upd zz 3 (-9)
abbrev tz : TK := (0, 0, 0, 0, 0, 0, 0, 0, zz, zz, zz, zz)
abbrev gz : GG := (0, r0, 0, zz, 0, zz, 0, zz, 0, zz)
abbrev mz : MS := (zz, zz, zz, 0, 0)
theorem inv_0 : Inv 0 r0 := ⟨by omega, by decide, fun t ht => absurd ht (Nat.not_lt_zero t)⟩
theorem good_0 : Good gz := ⟨⟨inv_0, by decide, fun t ht => absurd ht (Nat.not_lt_zero t)⟩, Or.inl rfl, fun h => absurd h (by decide), by decide, by decide⟩
theorem rep_0 : Rep 0 r0 tz := ⟨inv_0, by decide, by decide, by decide, by decide, fun t ht => absurd ht (Nat.not_lt_zero t), fun w _ => (rfl : (0 : Int32) &&& (0 ^^^ (-1)) = 0), by decide, fun t ht => absurd ht (Nat.not_lt_zero t)⟩
theorem cr_0 : CR gz tz tz := ⟨⟨rep_0, rfl, rfl⟩, fun h => absurd h (by decide)⟩

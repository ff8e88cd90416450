abbrev vwCl : List vw_C := [(RX0, TX0, 2), (RX2, TX2, 12), (RX3, TX3, 9), (RX4, TX4, 13)]
/-! ===== own rows over the kit: numbers by their Nat, contracts that only read (PRO) or write a world in place (PRW), their starts and calls ===== -/
theorem ni_le {x y : Int32} {a b : Nat} (hx : x = nI a) (hy : y = nI b) (ha : a < 2147483648) (hb : b < 2147483648) : x ≤ y ↔ a ≤ b := by
  subst hx; subst hy; exact nI_leI (by omega) (by omega)
theorem ni_lt {x y : Int32} {a b : Nat} (hx : x = nI a) (hy : y = nI b) (ha : a < 2147483648) (hb : b < 2147483648) : x < y ↔ a < b := by
  subst hx; subst hy; exact nI_ltI (by omega) (by omega)
theorem ni_eq {x y : Int32} {a b : Nat} (hx : x = nI a) (hy : y = nI b) (ha : a < 2147483648) (hb : b < 2147483648) : x = y ↔ a = b := by
  subst hx; subst hy; exact nI_eq (by omega) (by omega)
theorem ni_add {x y z : Int32} {a b : Nat} (hz : z = x + y) (hx : x = nI a) (hy : y = nI b) : z = nI (a + b) := by
  subst hz; subst hx; subst hy; exact nI_add a b
theorem ni_sub {x y z : Int32} {a b : Nat} (hz : z = x - y) (hx : x = nI a) (hy : y = nI b) (h : b ≤ a) : z = nI (a - b) := by
  subst hz; subst hx; subst hy; exact pk_sub h
theorem ni_mul {x y z : Int32} {a b : Nat} (hz : z = x * y) (hx : x = nI a) (hy : y = nI b) : z = nI (a * b) := by
  subst hz; subst hx; subst hy; exact pk_mul a b
theorem ni_at (x : Int32) {n : Nat} (hn : n < 2147483648) (h0 : ¬ x < 0) (h : ¬ nI n ≤ x) : ∃ j : Nat, j < n ∧ x = nI j := by
  rcases pk_ix x (n := n) (by omega) with q | q | q
  · exact absurd q h0
  · exact absurd q h
  · exact q
def NW (U : State) : Prop := va_Nw (.methodLinkNest RX3 9 yX2_init RX3) U ∧ va_Nw (.methodLinkNest RX3 28 yX0_init RX3) U ∧ va_Nw (.methodLinkNest RX2 74 yX3_isWoman RX3) U ∧ va_Nw (.methodLinkNest RX0 57 yX3_isWoman RX3) U
def KK (D : va_G) (cI : ClassId) (U : State) : Prop := va_K D vwCl [(cI, .int)] U ∧ NW U
theorem KK.warm {D : va_G} {cI : ClassId} {s U : State} (hW : s.WarmedH U.vm) (h : KK D cI s) : KK D cI U :=
  ⟨va_K.moved hW.alike h.1, va_Nw.warmM hW h.2.1, va_Nw.warmM hW h.2.2.1, va_Nw.warmM hW h.2.2.2.1, va_Nw.warmM hW h.2.2.2.2⟩
theorem KK.same {D : va_G} {cI : ClassId} {s U : State} (hv : s.vm = U.vm) (h : KK D cI s) : KK D cI U :=
  ⟨va_K.moved (by rw [hv]; exact Vm.Alike.refl U.vm) h.1, va_Nw.same rfl hv h.2.1, va_Nw.same rfl hv h.2.2.1, va_Nw.same rfl hv h.2.2.2.1, va_Nw.same rfl hv h.2.2.2.2⟩
/-- a start that only reads its world -/
def PRO (D : va_G) (cI : ClassId) (av : List Value) (W0 : va_W) : Array Value → State → Prop := va_Pc av (fun U => va_P D vwCl W0 U.heap ∧ KK D cI U)
/-- a start that writes its world -/
def PRW (D : va_G) (cI : ClassId) (av : List Value) (W0 : va_W) (sz : Nat) : Array Value → State → Prop := va_Pc av (fun U => U.heap.size = sz ∧ va_P D vwCl W0 U.heap ∧ KK D cI U ∧ va_D (fun _ => True) W0)
theorem PRO.blind {D : va_G} {cI : ClassId} {av : List Value} {W0 : va_W} : FrameBlind (PRO D cI av W0) := fun a U g mk q => by
  obtain ⟨q0, qP, qK⟩ := q
  exact ⟨q0, qP, KK.same (s := U) (U := U.calling g mk a) rfl qK⟩
theorem PRW.blind {D : va_G} {cI : ClassId} {av : List Value} {W0 : va_W} {sz : Nat} : FrameBlind (PRW D cI av W0 sz) := fun a U g mk q => by
  obtain ⟨q0, q1, qP, qK, qD⟩ := q
  exact ⟨q0, q1, qP, KK.same (s := U) (U := U.calling g mk a) rfl qK, qD⟩
/-- what a world is behind a method -/
def BRW (D : va_G) (W0 : va_W) (sz : Nat) {S : Type} (W1 : S → va_W) (u : S) (t : State) : Prop := va_P D vwCl (W1 u) t.heap ∧ va_D (va_A W0 sz) (W1 u)
theorem st_roi {l : Launch} {y : MethodName} {ws ws' : List Cond} {rm : Room} {D : va_G} {cI : ClassId} {av : List Value} {W0 : va_W} {post : Int32 → Prop} {cc : ByteArray} {maxL : Nat} {rt : FieldType} (hy : plainName y.cls = true) (hw : ws = .code y cc maxL (some rt) :: ws') (hn : (lg_sl av).length ≤ maxL)
    (hz : ∀ v, post v → narrow rt (.int v) = .int v)
    (body : ∀ (p : Program) (e : Env) (s : State) (m : MethodId) (below : List Frame) (meth : Method) (c : Code) (Q : State → Prop) (ls : Array Slot), p.tables.exec = Jvm.exec → c.code = cc → c.maxLocals = maxL → (∀ w ∈ ws, w.before av.toArray s = true) → s.vm.findClass y.cls = some m.cls → va_P D vwCl W0 s.heap → KK D cI s → lv_has ls maxL (lv_args 0 av) →
      (∀ (pc : Nat) (ls : Array Slot) (v : Int32), decode cc pc = .ok (.ireturn, 1) → post v → W p l e rm s m av.toArray below meth c s.heap [] 0 0 Q (F0 m pc ls [.int v])) → W p l e rm s m av.toArray below meth c s.heap [] 0 0 Q (F0 m 0 ls [])) : Met l y ws rm (PRO D cI av W0) (vp_Si post) 0 0 (fun _ => False) := by
  refine Met.ofW (cc := cc) (maxL := maxL) (ret := some rt) hy hw ?_
  intro p e s m args below meth c s₁ B hml hv
  obtain ⟨rfl, hP, hK⟩ := hv
  have hl := lv_entry av hn
  rw [lg_entry_eq]
  refine body p e s m below meth c _ _ B.exec B.bytes hml (atoms_spec (ws := ws) B.pre) (findClass_of_methodNamed B.named) hP hK hl ?_
  intro pc ls v hdg hp
  exact W.zret B.exec B.bytes B.returns (hz v hp) (fun t ht hW => ⟨v, rfl, hp, ht⟩) (fun _ h => by cases h) hdg B.notSynchronized
theorem st_rol {l : Launch} {y : MethodName} {ws ws' : List Cond} {rm : Room} {D : va_G} {cI : ClassId} {av : List Value} {W0 : va_W} {post : Int64 → Prop} {cc : ByteArray} {maxL : Nat} (hy : plainName y.cls = true) (hw : ws = .code y cc maxL (some .long) :: ws') (hn : (lg_sl av).length ≤ maxL)
    (body : ∀ (p : Program) (e : Env) (s : State) (m : MethodId) (below : List Frame) (meth : Method) (c : Code) (Q : State → Prop) (ls : Array Slot), p.tables.exec = Jvm.exec → c.code = cc → c.maxLocals = maxL → (∀ w ∈ ws, w.before av.toArray s = true) → s.vm.findClass y.cls = some m.cls → va_P D vwCl W0 s.heap → KK D cI s → lv_has ls maxL (lv_args 0 av) →
      (∀ (pc : Nat) (ls : Array Slot) (v : Int64), decode cc pc = .ok (.lreturn, 1) → post v → W p l e rm s m av.toArray below meth c s.heap [] 0 0 Q (F0 m pc ls [.long v])) → W p l e rm s m av.toArray below meth c s.heap [] 0 0 Q (F0 m 0 ls [])) : Met l y ws rm (PRO D cI av W0) (vp_Sl post) 0 0 (fun _ => False) := by
  refine Met.ofW (cc := cc) (maxL := maxL) (ret := some .long) hy hw ?_
  intro p e s m args below meth c s₁ B hml hv
  obtain ⟨rfl, hP, hK⟩ := hv
  have hl := lv_entry av hn
  rw [lg_entry_eq]
  refine body p e s m below meth c _ _ B.exec B.bytes hml (atoms_spec (ws := ws) B.pre) (findClass_of_methodNamed B.named) hP hK hl ?_
  intro pc ls v hdg hp
  exact W.lret B.exec B.bytes B.returns (fun t ht hW => ⟨v, rfl, hp, ht⟩) (fun _ h => by cases h) hdg B.notSynchronized
theorem st_rwi {l : Launch} {y : MethodName} {ws ws' : List Cond} {rm : Room} {D : va_G} {cI : ClassId} {av : List Value} {W0 : va_W} {sz : Nat} {S : Type} {W1 : S → va_W} {post : Int32 → S → Prop} {cc : ByteArray} {maxL : Nat} {rt : FieldType} (hy : plainName y.cls = true) (hw : ws = .code y cc maxL (some rt) :: ws') (hn : (lg_sl av).length ≤ maxL)
    (hz : ∀ v u, post v u → narrow rt (.int v) = .int v)
    (body : ∀ (p : Program) (e : Env) (s : State) (m : MethodId) (below : List Frame) (meth : Method) (c : Code) (Q : State → Prop) (ls : Array Slot) (A : Nat → Prop), p.tables.exec = Jvm.exec → c.code = cc → c.maxLocals = maxL → (∀ w ∈ ws, w.before av.toArray s = true) → s.vm.findClass y.cls = some m.cls → va_P D vwCl W0 s.heap → KK D cI s → va_D A W0 → (∀ q : Nat, s.heap.size ≤ q → A q) → va_S A s.heap s.heap [] → lv_has ls maxL (lv_args 0 av) →
      (∀ (pc : Nat) (ls : Array Slot) (v : Int32) (u : S) (H : Heap) (locs : List Loc), decode cc pc = .ok (.ireturn, 1) → post v u → va_P D vwCl (W1 u) H → va_D A (W1 u) → va_S A s.heap H locs → W p l e rm s m av.toArray below meth c H locs 0 0 Q (F0 m pc ls [.int v])) → W p l e rm s m av.toArray below meth c s.heap [] 0 0 Q (F0 m 0 ls [])) : Met l y ws rm (PRW D cI av W0 sz) (va_Qi post (BRW D W0 sz W1) (va_A W0 sz)) 0 0 (va_A W0 sz) := by
  refine Met.ofW (cc := cc) (maxL := maxL) (ret := some rt) hy hw ?_
  intro p e s m args below meth c s₁ B hml hv
  obtain ⟨rfl, hsz, hP, hK, hD0⟩ := hv
  subst hsz
  have hl := lv_entry av hn
  rw [lg_entry_eq]
  refine body p e s m below meth c _ _ (va_A W0 s.heap.size) B.exec B.bytes hml (atoms_spec (ws := ws) B.pre) (findClass_of_methodNamed B.named) hP hK hD0.self (fun q h => Or.inr h) va_S.rf hl ?_
  intro pc ls v u H locs hdg hp hP1 hD1 hS1
  exact W.zret B.exec B.bytes B.returns (hz v u hp) (fun t ht hW => ⟨⟨v, u, rfl, hp, by rw [ht]; exact hP1, hD1⟩, hS1.F ht⟩) hS1.2.2 hdg B.notSynchronized
theorem st_rwl {l : Launch} {y : MethodName} {ws ws' : List Cond} {rm : Room} {D : va_G} {cI : ClassId} {av : List Value} {W0 : va_W} {sz : Nat} {S : Type} {W1 : S → va_W} {post : Int64 → S → Prop} {cc : ByteArray} {maxL : Nat} (hy : plainName y.cls = true) (hw : ws = .code y cc maxL (some .long) :: ws') (hn : (lg_sl av).length ≤ maxL)
    (body : ∀ (p : Program) (e : Env) (s : State) (m : MethodId) (below : List Frame) (meth : Method) (c : Code) (Q : State → Prop) (ls : Array Slot) (A : Nat → Prop), p.tables.exec = Jvm.exec → c.code = cc → c.maxLocals = maxL → (∀ w ∈ ws, w.before av.toArray s = true) → s.vm.findClass y.cls = some m.cls → va_P D vwCl W0 s.heap → KK D cI s → va_D A W0 → (∀ q : Nat, s.heap.size ≤ q → A q) → va_S A s.heap s.heap [] → lv_has ls maxL (lv_args 0 av) →
      (∀ (pc : Nat) (ls : Array Slot) (v : Int64) (u : S) (H : Heap) (locs : List Loc), decode cc pc = .ok (.lreturn, 1) → post v u → va_P D vwCl (W1 u) H → va_D A (W1 u) → va_S A s.heap H locs → W p l e rm s m av.toArray below meth c H locs 0 0 Q (F0 m pc ls [.long v])) → W p l e rm s m av.toArray below meth c s.heap [] 0 0 Q (F0 m 0 ls [])) : Met l y ws rm (PRW D cI av W0 sz) (va_Ql post (BRW D W0 sz W1) (va_A W0 sz)) 0 0 (va_A W0 sz) := by
  refine Met.ofW (cc := cc) (maxL := maxL) (ret := some .long) hy hw ?_
  intro p e s m args below meth c s₁ B hml hv
  obtain ⟨rfl, hsz, hP, hK, hD0⟩ := hv
  subst hsz
  have hl := lv_entry av hn
  rw [lg_entry_eq]
  refine body p e s m below meth c _ _ (va_A W0 s.heap.size) B.exec B.bytes hml (atoms_spec (ws := ws) B.pre) (findClass_of_methodNamed B.named) hP hK hD0.self (fun q h => Or.inr h) va_S.rf hl ?_
  intro pc ls v u H locs hdg hp hP1 hD1 hS1
  exact W.lret B.exec B.bytes B.returns (fun t ht hW => ⟨⟨v, u, rfl, hp, by rw [ht]; exact hP1, hD1⟩, hS1.F ht⟩) hS1.2.2 hdg B.notSynchronized
theorem st_rwv {l : Launch} {y : MethodName} {ws ws' : List Cond} {rm : Room} {D : va_G} {cI : ClassId} {av : List Value} {W0 : va_W} {sz : Nat} {S : Type} {W1 : S → va_W} {post : S → Prop} {cc : ByteArray} {maxL : Nat} (hy : plainName y.cls = true) (hw : ws = .code y cc maxL none :: ws') (hn : (lg_sl av).length ≤ maxL)
    (body : ∀ (p : Program) (e : Env) (s : State) (m : MethodId) (below : List Frame) (meth : Method) (c : Code) (Q : State → Prop) (ls : Array Slot) (A : Nat → Prop), p.tables.exec = Jvm.exec → c.code = cc → c.maxLocals = maxL → (∀ w ∈ ws, w.before av.toArray s = true) → s.vm.findClass y.cls = some m.cls → va_P D vwCl W0 s.heap → KK D cI s → va_D A W0 → (∀ q : Nat, s.heap.size ≤ q → A q) → va_S A s.heap s.heap [] → lv_has ls maxL (lv_args 0 av) →
      (∀ (pc : Nat) (ls : Array Slot) (u : S) (H : Heap) (locs : List Loc), decode cc pc = .ok (.return_, 1) → post u → va_P D vwCl (W1 u) H → va_D A (W1 u) → va_S A s.heap H locs → W p l e rm s m av.toArray below meth c H locs 0 0 Q (F0 m pc ls [])) → W p l e rm s m av.toArray below meth c s.heap [] 0 0 Q (F0 m 0 ls [])) : Met l y ws rm (PRW D cI av W0 sz) (va_Qv post (BRW D W0 sz W1) (va_A W0 sz)) 0 0 (va_A W0 sz) := by
  refine Met.ofW (cc := cc) (maxL := maxL) (ret := none) hy hw ?_
  intro p e s m args below meth c s₁ B hml hv
  obtain ⟨rfl, hsz, hP, hK, hD0⟩ := hv
  subst hsz
  have hl := lv_entry av hn
  rw [lg_entry_eq]
  refine body p e s m below meth c _ _ (va_A W0 s.heap.size) B.exec B.bytes hml (atoms_spec (ws := ws) B.pre) (findClass_of_methodNamed B.named) hP hK hD0.self (fun q h => Or.inr h) va_S.rf hl ?_
  intro pc ls u H locs hdg hp hP1 hD1 hS1
  exact W.vret B.exec B.bytes B.returns (fun t ht hW => ⟨⟨u, rfl, hp, by rw [ht]; exact hP1, hD1⟩, hS1.F ht⟩) hS1.2.2 hdg B.notSynchronized
section XT
variable {p : Program} {l : Launch} {e : Env} {R : Room} {s : State} {m : MethodId} {args : Array Value} {below : List Frame} {meth : Method} {c : Code} {H : Heap} {locs : List Loc} {cells slots : Nat} {Q : State → Prop}
variable {cc : ByteArray} {pc : Nat} {ls : Array Slot} {rest : List Value} {D : va_G} {cI : ClassId} {A : Nat → Prop} {a : Nat} {ws : va_W} {H0 : Heap}
theorem xa_ld (hx : p.tables.exec = Jvm.exec) (hb : c.code = cc) (hK : KK D cI s) (hP : va_P D vwCl ws H) (q0 : Nat) {n : Nat} {f : Nat → Int32} (ha : ws[q0]? = some (a, .inl (cI, n, .inl f))) {i : Int32} (j : Nat) (hi : i = nI j) (hj : j < n) (hn : n < 2147483648) (hdg : decode cc pc = .ok (.iaload, 1))
    (kk : W p l e R s m args below meth c H locs cells slots Q (F0 m (pc + 1) ls (.int (f j) :: rest))) : W p l e R s m args below meth c H locs cells slots Q (F0 m pc ls (.int i :: .ref a :: rest)) := by
  subst hi
  refine va_iald hx hb hK.1 hP q0 0 ha rfl (vp_in_nI hj (by omega)) hdg ?_
  rw [nI_clamp (by omega)]
  exact kk
theorem xa_st (hx : p.tables.exec = Jvm.exec) (hb : c.code = cc) (hK : KK D cI s) (hP : va_P D vwCl ws H) (hD : va_D A ws) (hS : va_S A H0 H locs) (q0 : Nat) {n : Nat} {f : Nat → Int32} (ha : ws[q0]? = some (a, .inl (cI, n, .inl f))) {i x : Int32} (j : Nat) (hi : i = nI j) (hj : j < n) (hn : n < 2147483648) (hdg : decode cc pc = .ok (.iastore, 1))
    (kk : ∀ (H1 : Heap) (locs1 : List Loc), va_P D vwCl (ws.set q0 (a, .inl (cI, n, .inl (upd f j x)))) H1 → va_D A (ws.set q0 (a, .inl (cI, n, .inl (upd f j x)))) → va_S A H0 H1 locs1 → W p l e R s m args below meth c H1 locs1 cells slots Q (F0 m (pc + 1) ls rest)) : W p l e R s m args below meth c H locs cells slots Q (F0 m pc ls (.int x :: .int i :: .ref a :: rest)) := by
  subst hi
  refine va_iast hx hb hK.1 hP hD hS q0 0 ha rfl (vp_in_nI hj (by omega)) hdg ?_
  rw [nI_clamp (by omega)]
  exact kk
variable {y : MethodName} {bytes : ByteArray} {maxL nL n index ci : Nat} {ret : Option FieldType} {wl : List Cond} {rm : Room} {Ts : List Cond} {own C : String} {T : u_T} {N b : Nat} {As : List Value} {fs : List Value} {W0 Wr : va_W} {st : List Value}
theorem xc_pre (hK : KK D cI s) (hP : va_P D vwCl W0 H) (As : List Value) : PreS s H (PRO D cI As W0) As :=
  ⟨PRO.blind, fun U hU hW => ⟨rfl, by rw [hU]; exact hP, hK.warm hW⟩⟩
theorem xc_preW (hK : KK D cI s) (hP : va_P D vwCl W0 H) (hD : va_D A W0) (As : List Value) : PreS s H (PRW D cI As W0 H.size) As :=
  ⟨PRW.blind, fun U hU hW => ⟨rfl, by rw [hU], by rw [hU]; exact hP, hK.warm hW, hD.weaken (fun _ _ _ _ => trivial)⟩⟩
theorem xc_Vi {post : Int32 → Prop} (S : CallFix p m c cc nL s args Ts own) (hM : Met l y wl rm (PRO D cI (.ref b :: As) W0) (vp_Si post) 0 0 (fun _ => False)) (cw : CallW R s args own C index y bytes maxL ret wl rm 0 0 n) (hK : KK D cI s) (hP : va_P D vwCl ws H) (is : List Nat) (hs : is.filterMap (fun i => ws[i]?) = W0)
    (q0 : Nat) (he : ws[q0]? = some (b, .inr (ci, fs))) (hc : vwCl[ci]? = some (C, T, N)) (hn : As.length = n) (hsize : ls.size = nL) (hst : st = As.reverse ++ .ref b :: rest) (hW : (rest.map fun v => v.category).sum ≤ 8) (hdg : decode cc pc = .ok (.invokevirtual index, 3)) (hf : cells ≤ R.cells ∧ slots ≤ R.slots)
    (kk : ∀ r : Int32, post r → W p l e R s m args below meth c H locs cells slots Q (F0 m (pc + 3) ls (.int r :: rest))) : W p l e R s m args below meth c H locs cells slots Q (F0 m pc ls st) :=
  vp_callSi (W.runV S hM cw ⟨PRO.blind, va_recv hK.1 hP hc he, fun U hU hW => ⟨rfl, by rw [hU]; exact hP.sub is hs, hK.warm hW⟩⟩ rfl hn hsize hst (lv_room hW) hdg hf) kk
theorem xc_Vl {post : Int64 → Prop} (S : CallFix p m c cc nL s args Ts own) (hM : Met l y wl rm (PRO D cI (.ref b :: As) W0) (vp_Sl post) 0 0 (fun _ => False)) (cw : CallW R s args own C index y bytes maxL ret wl rm 0 0 n) (hK : KK D cI s) (hP : va_P D vwCl ws H) (is : List Nat) (hs : is.filterMap (fun i => ws[i]?) = W0)
    (q0 : Nat) (he : ws[q0]? = some (b, .inr (ci, fs))) (hc : vwCl[ci]? = some (C, T, N)) (hn : As.length = n) (hsize : ls.size = nL) (hst : st = As.reverse ++ .ref b :: rest) (hW : (rest.map fun v => v.category).sum ≤ 8) (hdg : decode cc pc = .ok (.invokevirtual index, 3)) (hf : cells ≤ R.cells ∧ slots ≤ R.slots)
    (kk : ∀ r : Int64, post r → W p l e R s m args below meth c H locs cells slots Q (F0 m (pc + 3) ls (.long r :: rest))) : W p l e R s m args below meth c H locs cells slots Q (F0 m pc ls st) :=
  vp_callSl (W.runV S hM cw ⟨PRO.blind, va_recv hK.1 hP hc he, fun U hU hW => ⟨rfl, by rw [hU]; exact hP.sub is hs, hK.warm hW⟩⟩ rfl hn hsize hst (lv_room hW) hdg hf) kk
theorem xc_Si {post : Int32 → Prop} (S : CallFix p m c cc nL s args Ts own) (hM : Met l y wl rm (PRO D cI As W0) (vp_Si post) 0 0 (fun _ => False)) (cw : CallB R s args own index y bytes maxL ret wl rm 0 0 n ∧ (Cond.static y).before args s = true) (hK : KK D cI s) (hP : va_P D vwCl ws H) (is : List Nat) (hs : is.filterMap (fun i => ws[i]?) = W0)
    (hn : As.length = n) (hsize : ls.size = nL) (hst : st = As.reverse ++ rest) (hW : (rest.map fun v => v.category).sum ≤ 8) (hdg : decode cc pc = .ok (.invokestatic index, 3)) (hf : cells ≤ R.cells ∧ slots ≤ R.slots)
    (kk : ∀ r : Int32, post r → W p l e R s m args below meth c H locs cells slots Q (F0 m (pc + 3) ls (.int r :: rest))) : W p l e R s m args below meth c H locs cells slots Q (F0 m pc ls st) :=
  vp_callSi (W.runS S hM cw (xc_pre hK (hP.sub is hs) As) rfl hn hsize hst (lv_room hW) hdg hf) kk
theorem xc_Sl {post : Int64 → Prop} (S : CallFix p m c cc nL s args Ts own) (hM : Met l y wl rm (PRO D cI As W0) (vp_Sl post) 0 0 (fun _ => False)) (cw : CallB R s args own index y bytes maxL ret wl rm 0 0 n ∧ (Cond.static y).before args s = true) (hK : KK D cI s) (hP : va_P D vwCl ws H) (is : List Nat) (hs : is.filterMap (fun i => ws[i]?) = W0)
    (hn : As.length = n) (hsize : ls.size = nL) (hst : st = As.reverse ++ rest) (hW : (rest.map fun v => v.category).sum ≤ 8) (hdg : decode cc pc = .ok (.invokestatic index, 3)) (hf : cells ≤ R.cells ∧ slots ≤ R.slots)
    (kk : ∀ r : Int64, post r → W p l e R s m args below meth c H locs cells slots Q (F0 m (pc + 3) ls (.long r :: rest))) : W p l e R s m args below meth c H locs cells slots Q (F0 m pc ls st) :=
  vp_callSl (W.runS S hM cw (xc_pre hK (hP.sub is hs) As) rfl hn hsize hst (lv_room hW) hdg hf) kk
/-- a nest mate's static method that only reads: va_Run is turned into W by hand -/
theorem xc_Ni {host : String} {post : Int32 → Prop} (S : CallFix p m c cc nL s args Ts own) (hM : Met l y wl rm (PRO D cI As W0) (vp_Si post) 0 0 (fun _ => False)) (cw : va_CN R s args own index y host bytes maxL ret wl rm 0 0 n ∧ (Cond.static y).before args s = true ∧ True) (hK : KK D cI s) (hP : va_P D vwCl ws H) (is : List Nat) (hs : is.filterMap (fun i => ws[i]?) = W0)
    (hn : As.length = n) (hsize : ls.size = nL) (hst : st = As.reverse ++ rest) (hW : (rest.map fun v => v.category).sum ≤ 8) (hdg : decode cc pc = .ok (.invokestatic index, 3)) (hf : cells ≤ R.cells ∧ slots ≤ R.slots)
    (kk : ∀ r : Int32, post r → W p l e R s m args below meth c H locs cells slots Q (F0 m (pc + 3) ls (.int r :: rest))) : W p l e R s m args below meth c H locs cells slots Q (F0 m pc ls st) := by
  intro U hT X
  obtain ⟨v, st₀, t, T', L, h0, X', hL, e1, e2, ⟨r, hv, hp, hh⟩, st⟩ := va_runSN S hM cw (xc_pre hK (hP.sub is hs) As) rfl hn hsize hst (lv_room hW) hdg hf U hT X
  cases hv
  obtain ⟨t2, a1, b1⟩ := kk r hp T' (by rw [e1, hh, h0]) (Stand.forget X' (fun q h => (hL q h).elim))
  exact ⟨t2, st t2 a1, b1⟩
theorem xc_join {S : Type} {W1 : S → va_W} {u : S} {Wn : va_W} {t : State} {H1 : Heap} (hP : va_P D vwCl ws H) (hD : va_D A ws) (isC isR pm : List Nat) (hC : isC.map (fun i => ws[i]?) = W0.map some) (hR : isR.map (fun i => ws[i]?) = Wr.map some) (hnd : va_nd isR = true) (hdis : ∀ i ∈ isR, i ∉ isC) (hnp : va_nd pm = true) (hN : pm.map (fun i => (Wr ++ W1 u)[i]?) = Wn.map some)
    (hF : ∀ q, va_A W0 H.size q → A q) (ht : t.heap = H1) (hB : BRW D W0 H.size W1 u t) (hk1 : ∀ q : Nat, q < H.size → ¬ va_A W0 H.size q → H1[q]? = H[q]?) : va_P D vwCl Wn H1 ∧ va_D A Wn := by
  obtain ⟨hP1, hD1⟩ := hB
  rw [ht] at hP1
  obtain ⟨hP2, hD2⟩ := va_join hP hD isC isR hC hR hnd hdis hk1 hF hP1 hD1
  have hN2 : pm.filterMap (fun i => (Wr ++ W1 u)[i]?) = Wn := by
    have h := congrArg (List.filterMap id) hN
    rw [List.filterMap_map, List.filterMap_map] at h
    simpa using h
  exact ⟨hP2.sub pm hN2, hD2.sub pm hnp hN⟩
theorem xw_Vi {S : Type} {W1 Wn : S → va_W} {post : Int32 → S → Prop} (SF : CallFix p m c cc nL s args Ts own) (hM : Met l y wl rm (PRW D cI (.ref b :: As) W0 H.size) (va_Qi post (BRW D W0 H.size W1) (va_A W0 H.size)) 0 0 (va_A W0 H.size)) (cw : CallW R s args own C index y bytes maxL ret wl rm 0 0 n) (hK : KK D cI s) (hP : va_P D vwCl ws H) (hD : va_D A ws) (hS : va_S A H0 H locs) (hA : ∀ q : Nat, H0.size ≤ q → A q)
    (isC isR pm : List Nat) (hC : isC.map (fun i => ws[i]?) = W0.map some) (hR : isR.map (fun i => ws[i]?) = Wr.map some) (hnc : va_nd isC = true) (hnd : va_nd isR = true) (hdis : ∀ i ∈ isR, i ∉ isC) (hnp : va_nd pm = true) (hN : ∀ u, pm.map (fun i => (Wr ++ W1 u)[i]?) = (Wn u).map some)
    (q0 : Nat) (he : ws[q0]? = some (b, .inr (ci, fs))) (hc : vwCl[ci]? = some (C, T, N)) (hn : As.length = n) (hsize : ls.size = nL) (hst : st = As.reverse ++ .ref b :: rest) (hW : (rest.map fun v => v.category).sum ≤ 8) (hdg : decode cc pc = .ok (.invokevirtual index, 3)) (hf : cells + 0 ≤ R.cells ∧ slots + 0 ≤ R.slots)
    (kk : ∀ (r : Int32) (u : S) (H1 : Heap) (locs1 : List Loc), post r u → va_P D vwCl (Wn u) H1 → va_D A (Wn u) → va_S A H0 H1 locs1 → W p l e R s m args below meth c H1 locs1 cells slots Q (F0 m (pc + 3) ls (.int r :: rest))) : W p l e R s m args below meth c H locs cells slots Q (F0 m pc ls st) := by
  have hF := va_free (wc := W0) hD hS hA isC hC
  have hDc : va_D A W0 := hD.sub isC hnc hC
  have hPc : va_P D vwCl W0 H := hP.sub isC (by
    have h := congrArg (List.filterMap id) hC
    rw [List.filterMap_map, List.filterMap_map] at h
    simpa using h)
  refine va_calli (va_runV SF hM cw ⟨PRW.blind, va_recv hK.1 hP hc he, fun U hU hW => ⟨rfl, by rw [hU], by rw [hU]; exact hPc, hK.warm hW, hDc.weaken (fun _ _ _ _ => trivial)⟩⟩ rfl hn hsize hst (lv_room hW) hdg hf) hS (fun q _ h => hF q h) hF (fun r u t H1 locs1 ht hvm hw hB hz1 hk1 hS1 => ?_)
  obtain ⟨hP2, hD2⟩ := xc_join hP hD isC isR pm hC hR hnd hdis hnp (hN u) hF ht hB hk1
  exact kk r u H1 locs1 hw hP2 hD2 hS1
theorem xw_Vl {S : Type} {W1 Wn : S → va_W} {post : Int64 → S → Prop} (SF : CallFix p m c cc nL s args Ts own) (hM : Met l y wl rm (PRW D cI (.ref b :: As) W0 H.size) (va_Ql post (BRW D W0 H.size W1) (va_A W0 H.size)) 0 0 (va_A W0 H.size)) (cw : CallW R s args own C index y bytes maxL ret wl rm 0 0 n) (hK : KK D cI s) (hP : va_P D vwCl ws H) (hD : va_D A ws) (hS : va_S A H0 H locs) (hA : ∀ q : Nat, H0.size ≤ q → A q)
    (isC isR pm : List Nat) (hC : isC.map (fun i => ws[i]?) = W0.map some) (hR : isR.map (fun i => ws[i]?) = Wr.map some) (hnc : va_nd isC = true) (hnd : va_nd isR = true) (hdis : ∀ i ∈ isR, i ∉ isC) (hnp : va_nd pm = true) (hN : ∀ u, pm.map (fun i => (Wr ++ W1 u)[i]?) = (Wn u).map some)
    (q0 : Nat) (he : ws[q0]? = some (b, .inr (ci, fs))) (hc : vwCl[ci]? = some (C, T, N)) (hn : As.length = n) (hsize : ls.size = nL) (hst : st = As.reverse ++ .ref b :: rest) (hW : (rest.map fun v => v.category).sum ≤ 8) (hdg : decode cc pc = .ok (.invokevirtual index, 3)) (hf : cells + 0 ≤ R.cells ∧ slots + 0 ≤ R.slots)
    (kk : ∀ (r : Int64) (u : S) (H1 : Heap) (locs1 : List Loc), post r u → va_P D vwCl (Wn u) H1 → va_D A (Wn u) → va_S A H0 H1 locs1 → W p l e R s m args below meth c H1 locs1 cells slots Q (F0 m (pc + 3) ls (.long r :: rest))) : W p l e R s m args below meth c H locs cells slots Q (F0 m pc ls st) := by
  have hF := va_free (wc := W0) hD hS hA isC hC
  have hDc : va_D A W0 := hD.sub isC hnc hC
  have hPc : va_P D vwCl W0 H := hP.sub isC (by
    have h := congrArg (List.filterMap id) hC
    rw [List.filterMap_map, List.filterMap_map] at h
    simpa using h)
  refine va_calll (va_runV SF hM cw ⟨PRW.blind, va_recv hK.1 hP hc he, fun U hU hW => ⟨rfl, by rw [hU], by rw [hU]; exact hPc, hK.warm hW, hDc.weaken (fun _ _ _ _ => trivial)⟩⟩ rfl hn hsize hst (lv_room hW) hdg hf) hS (fun q _ h => hF q h) hF (fun r u t H1 locs1 ht hvm hw hB hz1 hk1 hS1 => ?_)
  obtain ⟨hP2, hD2⟩ := xc_join hP hD isC isR pm hC hR hnd hdis hnp (hN u) hF ht hB hk1
  exact kk r u H1 locs1 hw hP2 hD2 hS1
theorem xw_Vv {S : Type} {W1 Wn : S → va_W} {post : S → Prop} (SF : CallFix p m c cc nL s args Ts own) (hM : Met l y wl rm (PRW D cI (.ref b :: As) W0 H.size) (va_Qv post (BRW D W0 H.size W1) (va_A W0 H.size)) 0 0 (va_A W0 H.size)) (cw : CallW R s args own C index y bytes maxL ret wl rm 0 0 n) (hK : KK D cI s) (hP : va_P D vwCl ws H) (hD : va_D A ws) (hS : va_S A H0 H locs) (hA : ∀ q : Nat, H0.size ≤ q → A q)
    (isC isR pm : List Nat) (hC : isC.map (fun i => ws[i]?) = W0.map some) (hR : isR.map (fun i => ws[i]?) = Wr.map some) (hnc : va_nd isC = true) (hnd : va_nd isR = true) (hdis : ∀ i ∈ isR, i ∉ isC) (hnp : va_nd pm = true) (hN : ∀ u, pm.map (fun i => (Wr ++ W1 u)[i]?) = (Wn u).map some)
    (q0 : Nat) (he : ws[q0]? = some (b, .inr (ci, fs))) (hc : vwCl[ci]? = some (C, T, N)) (hn : As.length = n) (hsize : ls.size = nL) (hst : st = As.reverse ++ .ref b :: rest) (hW : (rest.map fun v => v.category).sum ≤ 8) (hdg : decode cc pc = .ok (.invokevirtual index, 3)) (hf : cells + 0 ≤ R.cells ∧ slots + 0 ≤ R.slots)
    (kk : ∀ (u : S) (H1 : Heap) (locs1 : List Loc), post u → va_P D vwCl (Wn u) H1 → va_D A (Wn u) → va_S A H0 H1 locs1 → W p l e R s m args below meth c H1 locs1 cells slots Q (F0 m (pc + 3) ls rest)) : W p l e R s m args below meth c H locs cells slots Q (F0 m pc ls st) := by
  have hF := va_free (wc := W0) hD hS hA isC hC
  have hDc : va_D A W0 := hD.sub isC hnc hC
  have hPc : va_P D vwCl W0 H := hP.sub isC (by
    have h := congrArg (List.filterMap id) hC
    rw [List.filterMap_map, List.filterMap_map] at h
    simpa using h)
  refine va_callv (va_runV SF hM cw ⟨PRW.blind, va_recv hK.1 hP hc he, fun U hU hW => ⟨rfl, by rw [hU], by rw [hU]; exact hPc, hK.warm hW, hDc.weaken (fun _ _ _ _ => trivial)⟩⟩ rfl hn hsize hst (lv_room hW) hdg hf) hS (fun q _ h => hF q h) hF (fun u t H1 locs1 ht hvm hw hB hz1 hk1 hS1 => ?_)
  obtain ⟨hP2, hD2⟩ := xc_join hP hD isC isR pm hC hR hnd hdis hnp (hN u) hF ht hB hk1
  exact kk u H1 locs1 hw hP2 hD2 hS1
theorem xw_Si {S : Type} {W1 Wn : S → va_W} {post : Int32 → S → Prop} (SF : CallFix p m c cc nL s args Ts own) (hM : Met l y wl rm (PRW D cI As W0 H.size) (va_Qi post (BRW D W0 H.size W1) (va_A W0 H.size)) 0 0 (va_A W0 H.size)) (cw : CallB R s args own index y bytes maxL ret wl rm 0 0 n ∧ (Cond.static y).before args s = true) (hK : KK D cI s) (hP : va_P D vwCl ws H) (hD : va_D A ws) (hS : va_S A H0 H locs) (hA : ∀ q : Nat, H0.size ≤ q → A q)
    (isC isR pm : List Nat) (hC : isC.map (fun i => ws[i]?) = W0.map some) (hR : isR.map (fun i => ws[i]?) = Wr.map some) (hnc : va_nd isC = true) (hnd : va_nd isR = true) (hdis : ∀ i ∈ isR, i ∉ isC) (hnp : va_nd pm = true) (hN : ∀ u, pm.map (fun i => (Wr ++ W1 u)[i]?) = (Wn u).map some)
    (hn : As.length = n) (hsize : ls.size = nL) (hst : st = As.reverse ++ rest) (hW : (rest.map fun v => v.category).sum ≤ 8) (hdg : decode cc pc = .ok (.invokestatic index, 3)) (hf : cells + 0 ≤ R.cells ∧ slots + 0 ≤ R.slots)
    (kk : ∀ (r : Int32) (u : S) (H1 : Heap) (locs1 : List Loc), post r u → va_P D vwCl (Wn u) H1 → va_D A (Wn u) → va_S A H0 H1 locs1 → W p l e R s m args below meth c H1 locs1 cells slots Q (F0 m (pc + 3) ls (.int r :: rest))) : W p l e R s m args below meth c H locs cells slots Q (F0 m pc ls st) := by
  have hF := va_free (wc := W0) hD hS hA isC hC
  have hDc : va_D A W0 := hD.sub isC hnc hC
  have hPc : va_P D vwCl W0 H := hP.sub isC (by
    have h := congrArg (List.filterMap id) hC
    rw [List.filterMap_map, List.filterMap_map] at h
    simpa using h)
  refine va_calli (va_runS SF hM cw (xc_preW hK hPc hDc As) rfl hn hsize hst (lv_room hW) hdg hf) hS (fun q _ h => hF q h) hF (fun r u t H1 locs1 ht hvm hw hB hz1 hk1 hS1 => ?_)
  obtain ⟨hP2, hD2⟩ := xc_join hP hD isC isR pm hC hR hnd hdis hnp (hN u) hF ht hB hk1
  exact kk r u H1 locs1 hw hP2 hD2 hS1
theorem xw_Sv {S : Type} {W1 Wn : S → va_W} {post : S → Prop} (SF : CallFix p m c cc nL s args Ts own) (hM : Met l y wl rm (PRW D cI As W0 H.size) (va_Qv post (BRW D W0 H.size W1) (va_A W0 H.size)) 0 0 (va_A W0 H.size)) (cw : CallB R s args own index y bytes maxL ret wl rm 0 0 n ∧ (Cond.static y).before args s = true) (hK : KK D cI s) (hP : va_P D vwCl ws H) (hD : va_D A ws) (hS : va_S A H0 H locs) (hA : ∀ q : Nat, H0.size ≤ q → A q)
    (isC isR pm : List Nat) (hC : isC.map (fun i => ws[i]?) = W0.map some) (hR : isR.map (fun i => ws[i]?) = Wr.map some) (hnc : va_nd isC = true) (hnd : va_nd isR = true) (hdis : ∀ i ∈ isR, i ∉ isC) (hnp : va_nd pm = true) (hN : ∀ u, pm.map (fun i => (Wr ++ W1 u)[i]?) = (Wn u).map some)
    (hn : As.length = n) (hsize : ls.size = nL) (hst : st = As.reverse ++ rest) (hW : (rest.map fun v => v.category).sum ≤ 8) (hdg : decode cc pc = .ok (.invokestatic index, 3)) (hf : cells + 0 ≤ R.cells ∧ slots + 0 ≤ R.slots)
    (kk : ∀ (u : S) (H1 : Heap) (locs1 : List Loc), post u → va_P D vwCl (Wn u) H1 → va_D A (Wn u) → va_S A H0 H1 locs1 → W p l e R s m args below meth c H1 locs1 cells slots Q (F0 m (pc + 3) ls rest)) : W p l e R s m args below meth c H locs cells slots Q (F0 m pc ls st) := by
  have hF := va_free (wc := W0) hD hS hA isC hC
  have hDc : va_D A W0 := hD.sub isC hnc hC
  have hPc : va_P D vwCl W0 H := hP.sub isC (by
    have h := congrArg (List.filterMap id) hC
    rw [List.filterMap_map, List.filterMap_map] at h
    simpa using h)
  refine va_callv (va_runS SF hM cw (xc_preW hK hPc hDc As) rfl hn hsize hst (lv_room hW) hdg hf) hS (fun q _ h => hF q h) hF (fun u t H1 locs1 ht hvm hw hB hz1 hk1 hS1 => ?_)
  obtain ⟨hP2, hD2⟩ := xc_join hP hD isC isR pm hC hR hnd hdis hnp (hN u) hF ht hB hk1
  exact kk u H1 locs1 hw hP2 hD2 hS1
end XT

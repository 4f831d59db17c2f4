/-! methods that return or throw: k tells how (0 returned, 1 IllegalArgument, 2 IllegalState) -/
def excN (k : Int32) : Option String := if k = 1 then some "java/lang/IllegalArgumentException" else if k = 2 then some "java/lang/IllegalStateException" else none
/-- the words of a throw that don't ride with the tables -/
def xwords : List Cond := [.castable "java/lang/IllegalArgumentException" "java/lang/IllegalArgumentException", .castable "java/lang/IllegalStateException" "java/lang/IllegalStateException", .declares (Bundle.init0 "java/lang/RuntimeException"), .declares (Bundle.init0 "java/lang/Exception"), .declares (Bundle.init0 Bundle.tN)]
/-- what a throw needs of the start: the two statics of Throwable, and which class can be cast to which -/
def xw (A : Nat → Prop) (U : State) (H : Heap) : Prop := vx_Zq Bundle.tN "UNASSIGNED_STACK" Bundle.steD A U H ∧ vx_Zq Bundle.tN "SUPPRESSED_SENTINEL" Bundle.listD A U H ∧ (∀ w ∈ xwords, va_Nw w U) ∧ va_Nc "java/lang/IllegalStateException" "java/lang/IllegalArgumentException" U
theorem xw_cast {a b : String} {u U : State} (hvm : u.vm.Alike U.vm) (h : va_Nw (.castable a b) u) : va_Nw (.castable a b) U :=
  va_tabs rfl (rfl : (u.setVm U.vm).vm = U.vm) (by rw [Cond.castable_setVm hvm]; exact h)
theorem xw_decl {x : MethodName} {u U : State} (hvm : u.vm.Alike U.vm) (h : va_Nw (.declares x) u) : va_Nw (.declares x) U :=
  va_tabs rfl (rfl : (u.setVm U.vm).vm = U.vm) (by rw [Cond.declares_setVm hvm]; exact h)
theorem xw_words {u U : State} (hvm : u.vm.Alike U.vm) (h : ∀ w ∈ xwords, va_Nw w u) : ∀ w ∈ xwords, va_Nw w U := by
  intro w hw
  have h1 := h w hw
  simp only [xwords, List.mem_cons, List.not_mem_nil, or_false] at hw
  rcases hw with rfl | rfl | rfl | rfl | rfl
  · exact xw_cast hvm h1
  · exact xw_cast hvm h1
  · exact xw_decl hvm h1
  · exact xw_decl hvm h1
  · exact xw_decl hvm h1
theorem xw_tab : ∀ w ∈ xwords, w.onTables = true := by decide +kernel
theorem xw.moved {A : Nat → Prop} {u U : State} {H : Heap} (hvm : u.vm.Alike U.vm) (h : xw A u H) : xw A U H :=
  ⟨h.1.moved hvm, h.2.1.moved hvm, xw_words hvm h.2.2.1, h.2.2.2.moved hvm⟩
theorem xw.kept {A : Nat → Prop} {U : State} {H H1 : Heap} (h : xw A U H) (hq : ∀ a : Nat, a < H.size → ¬ A a → H1[a]? = H[a]?) : xw A U H1 :=
  ⟨h.1.kept hq, h.2.1.kept hq, h.2.2⟩
theorem xw.narrow {A B : Nat → Prop} {U : State} {H : Heap} (h : xw A U H) (hAB : ∀ q, B q → A q) : xw B U H :=
  ⟨h.1.narrow hAB, h.2.1.narrow hAB, h.2.2⟩
def oIk (D : va_G) (cl : List vw_C) (tys : List (ClassId × FieldType)) (A : Nat → Prop) (k r0 : Int32) (w' : va_W) : Array Value → State → Outcome → State → Prop := va_Qi (fun r (_ : Unit) => k = 0 ∧ r = r0) (fun _ t => atW D cl tys A w' t) A
def oVk (D : va_G) (cl : List vw_C) (tys : List (ClassId × FieldType)) (A : Nat → Prop) (k : Int32) (w' : va_W) : Array Value → State → Outcome → State → Prop := va_Qv (fun (_ : Unit) => k = 0) (fun _ t => atW D cl tys A w' t) A
def oX (D : va_G) (cl : List vw_C) (tys : List (ClassId × FieldType)) (A : Nat → Prop) (k : Int32) (w' : va_W) : String → State → State → Prop := vx_X (fun (_ : Unit) => True) (fun E _ t => excN k = some E ∧ atW D cl tys A w' t) A
def pcX (D : va_G) (cl : List vw_C) (tys : List (ClassId × FieldType)) (sz : Nat) (w : va_W) : State → Prop := fun U => pcW D cl tys sz w U ∧ xw (va_A w sz) U U.heap
def CtXI (l : Launch) (y : MethodName) (ws : List Cond) (rm : Room) (D : va_G) (cl : List vw_C) (tys : List (ClassId × FieldType)) (as : List Value) (w : va_W) (k r0 : Int32) (w' : va_W) : Prop :=
  ∀ sz : Nat, vx_Met l y ws rm (va_Pc as (pcX D cl tys sz w)) (oIk D cl tys (va_A w sz) k r0 w') (oX D cl tys (va_A w sz) k w') 1 6 (va_A w sz)
def CtXV (l : Launch) (y : MethodName) (ws : List Cond) (rm : Room) (D : va_G) (cl : List vw_C) (tys : List (ClassId × FieldType)) (as : List Value) (w : va_W) (k : Int32) (w' : va_W) : Prop :=
  ∀ sz : Nat, vx_Met l y ws rm (va_Pc as (pcX D cl tys sz w)) (oVk D cl tys (va_A w sz) k w') (oX D cl tys (va_A w sz) k w') 1 6 (va_A w sz)
theorem blindX {as : List Value} {D : va_G} {cl : List vw_C} {tys : List (ClassId × FieldType)} {sz : Nat} {w : va_W} : FrameBlind (va_Pc as (pcX D cl tys sz w)) := by
  intro a U g mk q
  obtain ⟨q0, ⟨q1, qP, qK, qD⟩, qx⟩ := q
  exact ⟨q0, ⟨q1, qP, va_K.moved (u := U) (U := U.calling g mk a) (Vm.Alike.refl U.vm) qK, qD⟩, xw.moved (u := U) (U := U.calling g mk a) (Vm.Alike.refl U.vm) qx⟩
/-- what the walk of a method that may throw stands on, besides -/
def cxX (l : Launch) (s : State) (c : Code) (A : Nat → Prop) : Prop := l.stackTraces = false ∧ xw A s s.heap ∧ ∀ x ∈ c.exceptionTable.toList, False
section GX
variable {p : Program} {l : Launch} {e : Env} {R : Room} {s : State} {m : MethodId} {args : Array Value} {below : List Frame} {meth : Method} {c : Code} {H : Heap} {locs : List Loc} {cells slots : Nat} {Q : State → Prop}
  {pc : Nat} {ls : Array Slot} {rest st0 : List Value} {a : Array Value} {A : Nat → Prop} {H0 : Heap} {D : va_G} {cl : List vw_C} {tys : List (ClassId × FieldType)} {w wc wc' w' : va_W} {XC : String → State → State → Prop}
theorem gRetIk {cc : ByteArray} {v r0 k : Int32} (hx : p.tables.exec = Jvm.exec) (hb : c.code = cc) (hr : meth.sig.returnType = some .int) (hlocks : meth.locks = false) (hK : va_K D cl tys s) (hP : va_P D cl w H) (hD : va_D A w) (hS : va_S A s.heap H locs) (hk : k = 0) (hv : v = r0) (hw : w = w') (hdg : decode cc pc = .ok (.ireturn, 1)) (hc : cells ≤ 1) (hs : slots ≤ 6) :
    W p l e R s m args below meth c H locs cells slots (vx_MQ below (oIk D cl tys A k r0 w') XC args s 1 6 A) (F0 m pc ls [.int v]) := by
  subst hv; subst hw
  refine vx_ret (W.widen (k := 1) (n := 6) hc hs ?_)
  exact W.iret hx hb hr (fun t ht hW => ⟨⟨v, (), rfl, ⟨hk, rfl⟩, by rw [ht]; exact hP, va_K.moved hW.alike hK, hD⟩, hS.F ht⟩) hS.2.2 hdg hlocks
theorem gRetVk {cc : ByteArray} {k : Int32} (hx : p.tables.exec = Jvm.exec) (hb : c.code = cc) (hr : meth.sig.returnType = none) (hlocks : meth.locks = false) (hK : va_K D cl tys s) (hP : va_P D cl w H) (hD : va_D A w) (hS : va_S A s.heap H locs) (hk : k = 0) (hw : w = w') (hdg : decode cc pc = .ok (.return_, 1)) (hc : cells ≤ 1) (hs : slots ≤ 6) :
    W p l e R s m args below meth c H locs cells slots (vx_MQ below (oVk D cl tys A k w') XC args s 1 6 A) (F0 m pc ls []) := by
  subst hw
  refine vx_ret (W.widen (k := 1) (n := 6) hc hs ?_)
  exact W.vret hx hb hr (fun t ht hW => ⟨⟨(), rfl, hk, by rw [ht]; exact hP, va_K.moved hW.alike hK, hD⟩, hS.F ht⟩) hS.2.2 hdg hlocks
/-- new E, its constructor, athrow: out of the method -/
theorem gThrow {cc : ByteArray} {Qc : Array Value → State → Outcome → State → Prop} {k : Int32} {own cls : String} {names : List String} {ik ic : Nat} {Ts : List Cond} (X : cxX l s c A) (hx : p.tables.exec = Jvm.exec) (hb : c.code = cc) (hml : ls.size = c.maxLocals) (hlocks : meth.locks = false) (hown : s.vm.findClass own = some m.cls) (hts : ∀ w ∈ Ts, w.before args s = true) (hK : va_K D cl tys s) (hP : va_P D cl w H) (hD : va_D A w) (hS : va_S A s.heap H locs)
    (hcls : Bundle.fit cls = true) (hnames : ∀ n ∈ names, Bundle.fit n = true) (hk : Cond.classLink own ik cls ∈ Ts) (hini : Cond.initialized cls ∈ Ts) (hat : ∀ w ∈ (vx_at0 own ic cls names).filter goodWord, w ∈ Ts) (hno : ∀ w ∈ (vx_at0 own ic cls names).filter (fun w => !goodWord w), w ∈ xwords)
    (hgood : ∀ w ∈ Cond.classLink own ik cls :: Cond.initialized cls :: vx_at0 own ic cls names, vx_ot w = true)
    (d0 : decode cc pc = .ok (.new ik, 3)) (d3 : decode cc (pc + 3) = .ok (.dup, 1)) (d4 : decode cc (pc + 4) = .ok (.invokespecial ic, 3)) (d7 : decode cc (pc + 7) = .ok (.athrow, 1))
    (hRf : names.length + 3 < R.frames) (hRl : (rest.map fun v => v.category).sum + (13 * (names.length + 1) + 42) ≤ R.locals) (hRc : 1 ≤ R.cells) (hRs : 6 ≤ R.slots) (he : excN k = some cls) (hw : w = w') :
    W p l e R s m args below meth c H locs 0 0 (vx_MQ below Qc (oX D cl tys A k w') args s 1 6 A) (F0 m pc ls rest) := by
  subst hw
  obtain ⟨htr, ⟨hU, hN, hXw, -⟩, htab⟩ := X
  refine vx_throw0 hx hb htr hown hcls hnames (hts _ hk) (hts _ hini) (vx_hat (fun w h => hts w (hat w h)) hno (fun w h => va_Nw.use (xw_tab w h) (hXw w h))) hgood hU hN hS hml d0 d3 d4 d7 (fun x h => (htab x h).elim) hRf hRl (by omega) (by omega) hlocks (fun t hvm hz hq => ?_) hS.2.2 (by omega) (by omega)
  refine ⟨(), trivial, ⟨he, hP.kept (fun j q hj => hq q.1 (hP j q hj).lt), va_K.moved hvm hK, hD⟩, Nat.le_trans hS.1 hz, fun q h1 h2 => ?_⟩
  rw [hq q (Nat.lt_of_lt_of_le h1 hS.1)]
  exact hS.2.1 q h1 h2
/-- a call that returns or throws -/
theorem gPreVX {C : String} {T : u_T} {N ci : Nat} {b : Addr} {fs As : List Value} (hX : xw A s s.heap) (hS : va_S A s.heap H locs) (hA : ∀ q : Nat, s.heap.size ≤ q → A q) (hP : va_P D cl w H) (hK : va_K D cl tys s) (hD : va_D A w) (isC : List Nat) (hn : va_nd isC = true) (hC : isC.map (fun i => w[i]?) = wc.map some) (i0 : Nat) (he : w[i0]? = some (b, .inr (ci, fs))) (hc : cl[ci]? = some (C, T, N)) : PreV s H C b (va_Pc (.ref b :: As) (pcX D cl tys H.size wc)) As := by
  have h1 := gPreS (as := .ref b :: As) hP hK hD isC hn hC
  have hFc := va_free (wc := wc) hD hS hA isC hC
  refine ⟨blindX, va_recv hK hP hc he, fun U hU hW => ⟨rfl, (h1.2 U hU hW).2, ?_⟩⟩
  rw [hU]
  exact ((hX.kept (fun q h2 h3 => hS.2.1 q h2 h3)).narrow (fun q h => hFc q h)).moved hW.alike
theorem gXI {k r0 : Int32} (hr : vx_Run p l e R s m args below meth c H locs cells slots 1 6 (F0 m pc ls st0) rest (oIk D cl tys (va_A wc H.size) k r0 wc' a) (oX D cl tys (va_A wc H.size) k wc') (va_A wc H.size)) (hP : va_P D cl w H) (hD : va_D A w) (hS : va_S A H0 H locs) (hA : ∀ q, H0.size ≤ q → A q) (isC isR pm : List Nat) (hC : isC.map (fun i => w[i]?) = wc.map some) (hR : isR.map (fun i => w[i]?) = (isR.filterMap (fun i => w[i]?)).map some) (hn : va_nd isR = true) (hdis : ∀ i ∈ isR, i ∉ isC) (hw : pm.map (fun i => ((isR.filterMap (fun i => w[i]?)) ++ wc')[i]?) = w'.map some) (hpm : va_nd pm = true)
    (kx : ∀ (E : String) (ce : Cell) (q9 : Addr) (H1 : Heap) (locs1 : List Loc), excN k = some E → va_P D cl w' H1 → va_D A w' → va_S A H0 H1 locs1 → H1[q9]? = some ce → ce.vm = .none → s.vm.findClass E = some ce.cls → vx_W p l e R s m args below meth c H1 locs1 (cells + 1) (slots + 6) Q (F0 m pc ls rest) q9)
    (kk : k = 0 → ∀ (H1 : Heap) (locs1 : List Loc), va_P D cl w' H1 → va_D A w' → va_S A H0 H1 locs1 → W p l e R s m args below meth c H1 locs1 (cells + 1) (slots + 6) Q (F0 m (pc + 3) ls (.int r0 :: rest))) : W p l e R s m args below meth c H locs cells slots Q (F0 m pc ls st0) := by
  have hFc := va_free (wc := wc) hD hS hA isC hC
  refine vx_calli hr hS (fun q _ h => hFc q h) hFc (fun q _ h => hFc q h) (fun E ce q9 u t H1 locs1 ht hvm hp hB hz1 hk1 hS1 h1 h2 h3 => ?_) (fun r u t H1 locs1 ht hvm hp hB hz1 hk1 hS1 => ?_)
  · obtain ⟨hP2, hD2⟩ := gJoin hP hD hS hA isC isR pm hC hR hn hdis hw hpm ht hk1 hB.2
    exact kx E ce q9 H1 locs1 hB.1 hP2 hD2 hS1 h1 h2 h3
  · obtain ⟨hP2, hD2⟩ := gJoin hP hD hS hA isC isR pm hC hR hn hdis hw hpm ht hk1 hB
    rw [hp.2]
    exact kk hp.1 H1 locs1 hP2 hD2 hS1
theorem gXV {k : Int32} (hr : vx_Run p l e R s m args below meth c H locs cells slots 1 6 (F0 m pc ls st0) rest (oVk D cl tys (va_A wc H.size) k wc' a) (oX D cl tys (va_A wc H.size) k wc') (va_A wc H.size)) (hP : va_P D cl w H) (hD : va_D A w) (hS : va_S A H0 H locs) (hA : ∀ q, H0.size ≤ q → A q) (isC isR pm : List Nat) (hC : isC.map (fun i => w[i]?) = wc.map some) (hR : isR.map (fun i => w[i]?) = (isR.filterMap (fun i => w[i]?)).map some) (hn : va_nd isR = true) (hdis : ∀ i ∈ isR, i ∉ isC) (hw : pm.map (fun i => ((isR.filterMap (fun i => w[i]?)) ++ wc')[i]?) = w'.map some) (hpm : va_nd pm = true)
    (kx : ∀ (E : String) (ce : Cell) (q9 : Addr) (H1 : Heap) (locs1 : List Loc), excN k = some E → va_P D cl w' H1 → va_D A w' → va_S A H0 H1 locs1 → H1[q9]? = some ce → ce.vm = .none → s.vm.findClass E = some ce.cls → vx_W p l e R s m args below meth c H1 locs1 (cells + 1) (slots + 6) Q (F0 m pc ls rest) q9)
    (kk : k = 0 → ∀ (H1 : Heap) (locs1 : List Loc), va_P D cl w' H1 → va_D A w' → va_S A H0 H1 locs1 → W p l e R s m args below meth c H1 locs1 (cells + 1) (slots + 6) Q (F0 m (pc + 3) ls rest)) : W p l e R s m args below meth c H locs cells slots Q (F0 m pc ls st0) := by
  have hFc := va_free (wc := wc) hD hS hA isC hC
  refine vx_callv hr hS (fun q _ h => hFc q h) hFc (fun q _ h => hFc q h) (fun E ce q9 u t H1 locs1 ht hvm hp hB hz1 hk1 hS1 h1 h2 h3 => ?_) (fun u t H1 locs1 ht hvm hp hB hz1 hk1 hS1 => ?_)
  · obtain ⟨hP2, hD2⟩ := gJoin hP hD hS hA isC isR pm hC hR hn hdis hw hpm ht hk1 hB.2
    exact kx E ce q9 H1 locs1 hB.1 hP2 hD2 hS1 h1 h2 h3
  · obtain ⟨hP2, hD2⟩ := gJoin hP hD hS hA isC isR pm hC hR hn hdis hw hpm ht hk1 hB
    exact kk hp H1 locs1 hP2 hD2 hS1
end GX
theorem ctXI_of {l : Launch} {y : MethodName} {ws ws' : List Cond} {rm : Room} {D : va_G} {cl : List vw_C} {tys : List (ClassId × FieldType)} {as : List Value} {w w' : va_W} {k r0 : Int32} {cc : ByteArray} {maxL : Nat} {ret : Option FieldType} (htr : l.stackTraces = false) (hy : plainName y.cls = true) (hw : ws = Cond.code y cc maxL ret :: ws') (hle : (lg_sl as).length ≤ maxL)
    (body : ∀ p e s m below meth c A (ls : Array Slot), cxt p s m as.toArray meth c cc ret maxL y.cls ws D cl tys A → cxX l s c A → lv_has ls maxL (lv_args 0 as) → va_P D cl w s.heap → va_D A w → va_S A s.heap s.heap [] → W p l e rm s m as.toArray below meth c s.heap [] 0 0 (vx_MQ below (oIk D cl tys A k r0 w') (oX D cl tys A k w') as.toArray s 1 6 A) (F0 m 0 ls [])) : CtXI l y ws rm D cl tys as w k r0 w' := by
  intro sz
  refine vx_ofW (cc := cc) (maxL := maxL) (ret := ret) hy hw ?_
  intro p e s m args below meth c s₁ B hml htab hv
  obtain ⟨rfl, ⟨hsz, hP, hK, hD0⟩, hX⟩ := hv
  have hts := atoms_spec (ws := ws) B.pre
  have hown : s.vm.findClass y.cls = some m.cls := findClass_of_methodNamed B.named
  subst hsz
  have hl := lv_entry as (n := maxL) hle
  rw [lg_entry_eq]
  generalize (lg_sl as ++ List.replicate (maxL - (lg_sl as).length) Slot.unset).toArray = ls at hl ⊢
  exact body p e s m below meth c (va_A w s.heap.size) ls ⟨B.exec, B.bytes, B.returns, hml, hown, hts, B.notSynchronized, hK, fun q h => Or.inr h⟩ ⟨htr, hX, htab⟩ hl hP (hD0.self) va_S.rf
theorem ctXV_of {l : Launch} {y : MethodName} {ws ws' : List Cond} {rm : Room} {D : va_G} {cl : List vw_C} {tys : List (ClassId × FieldType)} {as : List Value} {w w' : va_W} {k : Int32} {cc : ByteArray} {maxL : Nat} {ret : Option FieldType} (htr : l.stackTraces = false) (hy : plainName y.cls = true) (hw : ws = Cond.code y cc maxL ret :: ws') (hle : (lg_sl as).length ≤ maxL)
    (body : ∀ p e s m below meth c A (ls : Array Slot), cxt p s m as.toArray meth c cc ret maxL y.cls ws D cl tys A → cxX l s c A → lv_has ls maxL (lv_args 0 as) → va_P D cl w s.heap → va_D A w → va_S A s.heap s.heap [] → W p l e rm s m as.toArray below meth c s.heap [] 0 0 (vx_MQ below (oVk D cl tys A k w') (oX D cl tys A k w') as.toArray s 1 6 A) (F0 m 0 ls [])) : CtXV l y ws rm D cl tys as w k w' := by
  intro sz
  refine vx_ofW (cc := cc) (maxL := maxL) (ret := ret) hy hw ?_
  intro p e s m args below meth c s₁ B hml htab hv
  obtain ⟨rfl, ⟨hsz, hP, hK, hD0⟩, hX⟩ := hv
  have hts := atoms_spec (ws := ws) B.pre
  have hown : s.vm.findClass y.cls = some m.cls := findClass_of_methodNamed B.named
  subst hsz
  have hl := lv_entry as (n := maxL) hle
  rw [lg_entry_eq]
  generalize (lg_sl as ++ List.replicate (maxL - (lg_sl as).length) Slot.unset).toArray = ls at hl ⊢
  exact body p e s m below meth c (va_A w s.heap.size) ls ⟨B.exec, B.bytes, B.returns, hml, hown, hts, B.notSynchronized, hK, fun q h => Or.inr h⟩ ⟨htr, hX, htab⟩ hl hP (hD0.self) va_S.rf

/-! pure words: a step that names a value, one that must be in range, one that may fail -/
def pLet {α β : Type} (v : α) (k : α → β) : β := k v
theorem pLet_out {α β : Type} {v : α} {k : α → β} {r : β} (h : pLet v k = r) : ∃ x, x = v ∧ k x = r := ⟨v, rfl, h⟩
def pIn {β : Type} (i : Int32) (n : Nat) (k : Option β) : Option β := if i < 0 ∨ n ≤ i.toNatClampNeg then none else k
theorem pIn_out {β : Type} {i : Int32} {n : Nat} {k : Option β} {r : β} (h : pIn i n k = some r) : vp_in i n ∧ k = some r := by
  unfold pIn at h
  by_cases q : i < 0 ∨ n ≤ i.toNatClampNeg
  · rw [if_pos q] at h; cases h
  · rw [if_neg q] at h; exact ⟨q, h⟩
def pNz {β : Type} (y : Int32) (k : Option β) : Option β := if y = 0 then none else k
theorem pNz_out {β : Type} {y : Int32} {k : Option β} {r : β} (h : pNz y k = some r) : ¬ y = 0 ∧ k = some r := by
  unfold pNz at h
  by_cases q : y = 0
  · rw [if_pos q] at h; cases h
  · rw [if_neg q] at h; exact ⟨q, h⟩
def pB {α β : Type} (o : Option α) (k : α → Option β) : Option β := match o with
  | none => none
  | some a => k a
theorem pB_out {α β : Type} {o : Option α} {k : α → Option β} {r : β} (h : pB o k = some r) : ∃ a, o = some a ∧ k a = some r := by
  cases o with
  | none => cases h
  | some a => exact ⟨a, rfl, h⟩
theorem pI_t {α : Type} {c : Prop} {q : Decidable c} {a b r : α} (h : c) (hf : (if c then a else b) = r) : a = r := by rw [if_pos h] at hf; exact hf
theorem pI_f {α : Type} {c : Prop} {q : Decidable c} {a b r : α} (h : ¬ c) (hf : (if c then a else b) = r) : b = r := by rw [if_neg h] at hf; exact hf
/-! worlds with one picture each -/
def atW (D : va_G) (cl : List vw_C) (tys : List (ClassId × FieldType)) (A : Nat → Prop) (w : va_W) (t : State) : Prop := va_P D cl w t.heap ∧ va_K D cl tys t ∧ va_D A w
def pcW (D : va_G) (cl : List vw_C) (tys : List (ClassId × FieldType)) (sz : Nat) (w : va_W) : State → Prop := fun U => U.heap.size = sz ∧ atW D cl tys (fun _ => True) w U
def oI (D : va_G) (cl : List vw_C) (tys : List (ClassId × FieldType)) (A : Nat → Prop) (r0 : Int32) (w' : va_W) : Array Value → State → Outcome → State → Prop := va_Qi (fun r (_ : Unit) => r = r0) (fun _ t => atW D cl tys A w' t) A
def oV (D : va_G) (cl : List vw_C) (tys : List (ClassId × FieldType)) (A : Nat → Prop) (w' : va_W) : Array Value → State → Outcome → State → Prop := va_Qv (fun (_ : Unit) => True) (fun _ t => atW D cl tys A w' t) A
/-- contracts: from the picture w, with the arguments, the answer r0 and the picture w' -/
def CtI (l : Launch) (y : MethodName) (ws : List Cond) (rm : Room) (D : va_G) (cl : List vw_C) (tys : List (ClassId × FieldType)) (as : List Value) (w : va_W) (r0 : Int32) (w' : va_W) : Prop :=
  ∀ sz : Nat, Met l y ws rm (va_Pc as (pcW D cl tys sz w)) (oI D cl tys (va_A w sz) r0 w') 0 0 (va_A w sz)
def CtV (l : Launch) (y : MethodName) (ws : List Cond) (rm : Room) (D : va_G) (cl : List vw_C) (tys : List (ClassId × FieldType)) (as : List Value) (w w' : va_W) : Prop :=
  ∀ sz : Nat, Met l y ws rm (va_Pc as (pcW D cl tys sz w)) (oV D cl tys (va_A w sz) w') 0 0 (va_A w sz)
theorem blindW {as : List Value} {D : va_G} {cl : List vw_C} {tys : List (ClassId × FieldType)} {sz : Nat} {w : va_W} : FrameBlind (va_Pc as (pcW D cl tys sz w)) := by
  intro a U g mk q
  obtain ⟨q0, q1, qP, qK, qD⟩ := q
  exact ⟨q0, q1, qP, va_K.moved (u := U) (U := U.calling g mk a) (Vm.Alike.refl U.vm) qK, qD⟩
section GW
variable {p : Program} {l : Launch} {e : Env} {R : Room} {s : State} {m : MethodId} {args : Array Value} {below : List Frame} {meth : Method} {c : Code} {H : Heap} {locs : List Loc} {cells slots : Nat} {Q : State → Prop}
  {pc : Nat} {ls : Array Slot} {rest st0 : List Value} {a : Array Value} {A : Nat → Prop} {H0 : Heap} {D : va_G} {cl : List vw_C} {tys : List (ClassId × FieldType)} {w wc wc' w' : va_W}
/-- the top of the stack under another name -/
theorem gTop {x y : Int32} (h : y = x) (k : W p l e R s m args below meth c H locs cells slots Q (F0 m pc ls (.int y :: rest))) : W p l e R s m args below meth c H locs cells slots Q (F0 m pc ls (.int x :: rest)) := by rw [← h]; exact k
theorem gPreS {as : List Value} (hP : va_P D cl w H) (hK : va_K D cl tys s) (hD : va_D A w) (isC : List Nat) (hn : va_nd isC = true) (hC : isC.map (fun i => w[i]?) = wc.map some) : PreS s H (va_Pc as (pcW D cl tys H.size wc)) as := by
  refine ⟨blindW, fun U hU hW => ⟨rfl, by rw [hU], ?_, va_K.moved hW.alike hK, (hD.sub isC hn hC).weaken (fun _ _ _ _ => trivial)⟩⟩
  rw [hU]
  intro k q hk
  have h1 : (isC.map (fun i => w[i]?))[k]? = some (some q) := by rw [hC, List.getElem?_map, hk]; rfl
  rw [List.getElem?_map] at h1
  cases hi : isC[k]? with
  | none => rw [hi] at h1; cases h1
  | some i => rw [hi] at h1; exact hP i q (Option.some.inj h1)
theorem gPreV {C : String} {T : u_T} {N ci : Nat} {b : Addr} {fs As : List Value} (hP : va_P D cl w H) (hK : va_K D cl tys s) (hD : va_D A w) (isC : List Nat) (hn : va_nd isC = true) (hC : isC.map (fun i => w[i]?) = wc.map some) (i0 : Nat) (he : w[i0]? = some (b, .inr (ci, fs))) (hc : cl[ci]? = some (C, T, N)) : PreV s H C b (va_Pc (.ref b :: As) (pcW D cl tys H.size wc)) As := by
  have h1 := gPreS (as := .ref b :: As) hP hK hD isC hn hC
  exact ⟨h1.1, va_recv hK hP hc he, h1.2⟩
theorem gJoin {t : State} {H1 : Heap} (hP : va_P D cl w H) (hD : va_D A w) (hS : va_S A H0 H locs) (hA : ∀ q, H0.size ≤ q → A q) (isC isR pm : List Nat) (hC : isC.map (fun i => w[i]?) = wc.map some) (hR : isR.map (fun i => w[i]?) = (isR.filterMap (fun i => w[i]?)).map some) (hn : va_nd isR = true) (hdis : ∀ i ∈ isR, i ∉ isC) (hw : pm.map (fun i => ((isR.filterMap (fun i => w[i]?)) ++ wc')[i]?) = w'.map some) (hpm : va_nd pm = true)
    (ht : t.heap = H1) (hk : ∀ q : Nat, q < H.size → ¬ va_A wc H.size q → H1[q]? = H[q]?) (hB : atW D cl tys (va_A wc H.size) wc' t) : va_P D cl w' H1 ∧ va_D A w' := by
  obtain ⟨hP1, hK1, hD1⟩ := hB
  rw [ht] at hP1
  have hFc := va_free (wc := wc) hD hS hA isC hC
  obtain ⟨hP2, hD2⟩ := va_join hP hD isC isR hC hR hn hdis hk hFc hP1 hD1
  refine ⟨?_, hD2.sub pm hpm hw⟩
  intro k q hq
  have h1 : (pm.map (fun i => ((isR.filterMap (fun i => w[i]?)) ++ wc')[i]?))[k]? = some (some q) := by rw [hw, List.getElem?_map, hq]; rfl
  rw [List.getElem?_map] at h1
  cases hi : pm[k]? with
  | none => rw [hi] at h1; cases h1
  | some i => rw [hi] at h1; exact hP2 i q (Option.some.inj h1)
/-- a call that answers an int: what came back stands beside the rest, in the caller's order -/
theorem gI {r0 : Int32} (hr : va_Run p l e R s m args below meth c H locs cells slots 0 0 (F0 m pc ls st0) rest (oI D cl tys (va_A wc H.size) r0 wc' a) (va_A wc H.size)) (hP : va_P D cl w H) (hD : va_D A w) (hS : va_S A H0 H locs) (hA : ∀ q, H0.size ≤ q → A q) (isC isR pm : List Nat) (hC : isC.map (fun i => w[i]?) = wc.map some) (hR : isR.map (fun i => w[i]?) = (isR.filterMap (fun i => w[i]?)).map some) (hn : va_nd isR = true) (hdis : ∀ i ∈ isR, i ∉ isC) (hw : pm.map (fun i => ((isR.filterMap (fun i => w[i]?)) ++ wc')[i]?) = w'.map some) (hpm : va_nd pm = true)
    (kk : ∀ (H1 : Heap) (locs1 : List Loc), va_P D cl w' H1 → va_D A w' → va_S A H0 H1 locs1 → W p l e R s m args below meth c H1 locs1 cells slots Q (F0 m (pc + 3) ls (.int r0 :: rest))) : W p l e R s m args below meth c H locs cells slots Q (F0 m pc ls st0) := by
  have hFc := va_free (wc := wc) hD hS hA isC hC
  refine va_calli hr hS (fun q _ h => hFc q h) hFc (fun r u t H1 locs1 ht hvm hp hB hz1 hk1 hS1 => ?_)
  obtain ⟨hP2, hD2⟩ := gJoin hP hD hS hA isC isR pm hC hR hn hdis hw hpm ht hk1 hB
  rw [hp]
  exact kk H1 locs1 hP2 hD2 hS1
theorem gV (hr : va_Run p l e R s m args below meth c H locs cells slots 0 0 (F0 m pc ls st0) rest (oV D cl tys (va_A wc H.size) wc' a) (va_A wc H.size)) (hP : va_P D cl w H) (hD : va_D A w) (hS : va_S A H0 H locs) (hA : ∀ q, H0.size ≤ q → A q) (isC isR pm : List Nat) (hC : isC.map (fun i => w[i]?) = wc.map some) (hR : isR.map (fun i => w[i]?) = (isR.filterMap (fun i => w[i]?)).map some) (hn : va_nd isR = true) (hdis : ∀ i ∈ isR, i ∉ isC) (hw : pm.map (fun i => ((isR.filterMap (fun i => w[i]?)) ++ wc')[i]?) = w'.map some) (hpm : va_nd pm = true)
    (kk : ∀ (H1 : Heap) (locs1 : List Loc), va_P D cl w' H1 → va_D A w' → va_S A H0 H1 locs1 → W p l e R s m args below meth c H1 locs1 cells slots Q (F0 m (pc + 3) ls rest)) : W p l e R s m args below meth c H locs cells slots Q (F0 m pc ls st0) := by
  have hFc := va_free (wc := wc) hD hS hA isC hC
  refine va_callv hr hS (fun q _ h => hFc q h) hFc (fun u t H1 locs1 ht hvm hp hB hz1 hk1 hS1 => ?_)
  obtain ⟨hP2, hD2⟩ := gJoin hP hD hS hA isC isR pm hC hR hn hdis hw hpm ht hk1 hB
  exact kk H1 locs1 hP2 hD2 hS1
/-- a call that has no cells of ours -/
theorem gKeep {H1 : Heap} (hP : va_P D cl w H) (hk : ∀ q : Nat, q < H.size → ¬ va_A [] H.size q → H1[q]? = H[q]?) : va_P D cl w H1 := by
  refine hP.kept (fun k q hq => ?_)
  have hlt := (hP k q hq).lt
  refine hk q.1 hlt (fun h => ?_)
  rcases h with ⟨j, e, h⟩ | h
  · simp at h
  · omega
theorem gI0 {r0 : Int32} (hr : va_Run p l e R s m args below meth c H locs cells slots 0 0 (F0 m pc ls st0) rest (oI D cl tys (va_A [] H.size) r0 [] a) (va_A [] H.size)) (hP : va_P D cl w H) (hD : va_D A w) (hS : va_S A H0 H locs) (hA : ∀ q, H0.size ≤ q → A q)
    (kk : ∀ (H1 : Heap) (locs1 : List Loc), va_P D cl w H1 → va_S A H0 H1 locs1 → W p l e R s m args below meth c H1 locs1 cells slots Q (F0 m (pc + 3) ls (.int r0 :: rest))) : W p l e R s m args below meth c H locs cells slots Q (F0 m pc ls st0) := by
  have hFc := va_free (wc := []) hD hS hA [] rfl
  refine va_calli hr hS (fun q _ h => hFc q h) hFc (fun r u t H1 locs1 ht hvm hp hB hz1 hk1 hS1 => ?_)
  rw [hp]
  exact kk H1 locs1 (gKeep hP hk1) hS1
theorem gV0 (hr : va_Run p l e R s m args below meth c H locs cells slots 0 0 (F0 m pc ls st0) rest (oV D cl tys (va_A [] H.size) [] a) (va_A [] H.size)) (hP : va_P D cl w H) (hD : va_D A w) (hS : va_S A H0 H locs) (hA : ∀ q, H0.size ≤ q → A q)
    (kk : ∀ (H1 : Heap) (locs1 : List Loc), va_P D cl w H1 → va_S A H0 H1 locs1 → W p l e R s m args below meth c H1 locs1 cells slots Q (F0 m (pc + 3) ls rest)) : W p l e R s m args below meth c H locs cells slots Q (F0 m pc ls st0) := by
  have hFc := va_free (wc := []) hD hS hA [] rfl
  refine va_callv hr hS (fun q _ h => hFc q h) hFc (fun u t H1 locs1 ht hvm hp hB hz1 hk1 hS1 => ?_)
  exact kk H1 locs1 (gKeep hP hk1) hS1
/-- the ends -/
theorem gRetI {cc : ByteArray} {v r0 : Int32} (hx : p.tables.exec = Jvm.exec) (hb : c.code = cc) (hr : meth.sig.returnType = some .int) (hlocks : meth.locks = false) (hK : va_K D cl tys s) (hP : va_P D cl w H) (hD : va_D A w) (hS : va_S A s.heap H locs) (hv : v = r0) (hw : w = w') (hdg : decode cc pc = .ok (.ireturn, 1)) :
    W p l e R s m args below meth c H locs cells slots (MQ below (oI D cl tys A r0 w') args s cells slots A) (F0 m pc ls [.int v]) := by
  subst hv; subst hw
  exact W.iret hx hb hr (fun t ht hW => ⟨⟨v, (), rfl, rfl, by rw [ht]; exact hP, va_K.moved hW.alike hK, hD⟩, hS.F ht⟩) hS.2.2 hdg hlocks
theorem gRetZ {cc : ByteArray} {v r0 : Int32} (hx : p.tables.exec = Jvm.exec) (hb : c.code = cc) (hr : meth.sig.returnType = some .boolean) (hlocks : meth.locks = false) (hK : va_K D cl tys s) (hP : va_P D cl w H) (hD : va_D A w) (hS : va_S A s.heap H locs) (hn : narrow .boolean (.int v) = .int v) (hv : v = r0) (hw : w = w') (hdg : decode cc pc = .ok (.ireturn, 1)) :
    W p l e R s m args below meth c H locs cells slots (MQ below (oI D cl tys A r0 w') args s cells slots A) (F0 m pc ls [.int v]) := by
  subst hv; subst hw
  exact W.zret hx hb hr hn (fun t ht hW => ⟨⟨v, (), rfl, rfl, by rw [ht]; exact hP, va_K.moved hW.alike hK, hD⟩, hS.F ht⟩) hS.2.2 hdg hlocks
theorem gRetV {cc : ByteArray} (hx : p.tables.exec = Jvm.exec) (hb : c.code = cc) (hr : meth.sig.returnType = none) (hlocks : meth.locks = false) (hK : va_K D cl tys s) (hP : va_P D cl w H) (hD : va_D A w) (hS : va_S A s.heap H locs) (hw : w = w') (hdg : decode cc pc = .ok (.return_, 1)) :
    W p l e R s m args below meth c H locs cells slots (MQ below (oV D cl tys A w') args s cells slots A) (F0 m pc ls []) := by
  subst hw
  exact W.vret hx hb hr (fun t ht hW => ⟨⟨(), rfl, trivial, by rw [ht]; exact hP, va_K.moved hW.alike hK, hD⟩, hS.F ht⟩) hS.2.2 hdg hlocks
end GW
/-- what a method's walk stands on -/
def cxt (p : Program) (s : State) (m : MethodId) (args : Array Value) (meth : Method) (c : Code) (cc : ByteArray) (rt : Option FieldType) (nL : Nat) (own : String) (Ts : List Cond) (D : va_G) (cl : List vw_C) (tys : List (ClassId × FieldType)) (A : Nat → Prop) : Prop :=
  p.tables.exec = Jvm.exec ∧ c.code = cc ∧ meth.sig.returnType = rt ∧ c.maxLocals = nL ∧ s.vm.findClass own = some m.cls ∧ (∀ w ∈ Ts, w.before args s = true) ∧ meth.locks = false ∧ va_K D cl tys s ∧ ∀ q : Nat, s.heap.size ≤ q → A q
/-- a contract out of the walk from the entry -/
theorem ctI_of {l : Launch} {y : MethodName} {ws ws' : List Cond} {rm : Room} {D : va_G} {cl : List vw_C} {tys : List (ClassId × FieldType)} {as : List Value} {w w' : va_W} {r0 : Int32} {cc : ByteArray} {maxL : Nat} {ret : Option FieldType} (hy : plainName y.cls = true) (hw : ws = Cond.code y cc maxL ret :: ws') (hle : (lg_sl as).length ≤ maxL)
    (body : ∀ p e s m below meth c A (ls : Array Slot), cxt p s m as.toArray meth c cc ret maxL y.cls ws D cl tys A → lv_has ls maxL (lv_args 0 as) → va_P D cl w s.heap → va_D A w → va_S A s.heap s.heap [] → W p l e rm s m as.toArray below meth c s.heap [] 0 0 (MQ below (oI D cl tys A r0 w') as.toArray s 0 0 A) (F0 m 0 ls [])) : CtI l y ws rm D cl tys as w r0 w' := by
  intro sz
  refine Met.ofW (cc := cc) (maxL := maxL) (ret := ret) hy hw ?_
  intro p e s m args below meth c s₁ B hml hv
  obtain ⟨rfl, hsz, hP, hK, hD0⟩ := hv
  have hts := atoms_spec (ws := ws) B.pre
  have hown : s.vm.findClass y.cls = some m.cls := findClass_of_methodNamed B.named
  subst hsz
  have hl := lv_entry as (n := maxL) hle
  rw [lg_entry_eq]
  generalize (lg_sl as ++ List.replicate (maxL - (lg_sl as).length) Slot.unset).toArray = ls at hl ⊢
  exact body p e s m below meth c (va_A w s.heap.size) ls ⟨B.exec, B.bytes, B.returns, hml, hown, hts, B.notSynchronized, hK, fun q h => Or.inr h⟩ hl hP (hD0.self) va_S.rf
theorem ctV_of {l : Launch} {y : MethodName} {ws ws' : List Cond} {rm : Room} {D : va_G} {cl : List vw_C} {tys : List (ClassId × FieldType)} {as : List Value} {w w' : va_W} {cc : ByteArray} {maxL : Nat} {ret : Option FieldType} (hy : plainName y.cls = true) (hw : ws = Cond.code y cc maxL ret :: ws') (hle : (lg_sl as).length ≤ maxL)
    (body : ∀ p e s m below meth c A (ls : Array Slot), cxt p s m as.toArray meth c cc ret maxL y.cls ws D cl tys A → lv_has ls maxL (lv_args 0 as) → va_P D cl w s.heap → va_D A w → va_S A s.heap s.heap [] → W p l e rm s m as.toArray below meth c s.heap [] 0 0 (MQ below (oV D cl tys A w') as.toArray s 0 0 A) (F0 m 0 ls [])) : CtV l y ws rm D cl tys as w w' := by
  intro sz
  refine Met.ofW (cc := cc) (maxL := maxL) (ret := ret) hy hw ?_
  intro p e s m args below meth c s₁ B hml hv
  obtain ⟨rfl, hsz, hP, hK, hD0⟩ := hv
  have hts := atoms_spec (ws := ws) B.pre
  have hown : s.vm.findClass y.cls = some m.cls := findClass_of_methodNamed B.named
  subst hsz
  have hl := lv_entry as (n := maxL) hle
  rw [lg_entry_eq]
  generalize (lg_sl as ++ List.replicate (maxL - (lg_sl as).length) Slot.unset).toArray = ls at hl ⊢
  exact body p e s m below meth c (va_A w s.heap.size) ls ⟨B.exec, B.bytes, B.returns, hml, hown, hts, B.notSynchronized, hK, fun q h => Or.inr h⟩ hl hP (hD0.self) va_S.rf

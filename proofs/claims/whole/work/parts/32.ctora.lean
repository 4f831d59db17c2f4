theorem newi (n : Nat) : ∀ cA : ClassId, vp_cell cA (n, .inl (fun _ => 0)) = arrV cA n (fun _ => defaultValue .int) := fun _ => rfl
theorem newl (n : Nat) : ∀ cA : ClassId, vp_cell cA (n, .inr (.inl (fun _ => 0))) = arrV cA n (fun _ => defaultValue .long) := fun _ => rfl
theorem same_int {D : va_G} {cl : List vw_C} {tys : List (ClassId × FieldType)} {U : State} (hK : va_K D cl tys U) (i j : Nat) {c1 c2 : ClassId} (h1 : tys[i]? = some (c1, .int)) (h2 : tys[j]? = some (c2, .int)) : c1 = c2 := by
  have e1 : U.vm.findClass _ = some c1 := (hK.2 i _ h1).2
  have e2 : U.vm.findClass _ = some c2 := (hK.2 j _ h2).2
  exact Option.some.inj (e1.symm.trans e2)
section GC
variable {p : Program} {l : Launch} {e : Env} {R : Room} {s : State} {m : MethodId} {args : Array Value} {below : List Frame} {meth : Method} {c : Code} {H : Heap} {locs : List Loc} {cells slots mc ms : Nat} {Q : State → Prop}
  {pc : Nat} {ls : Array Slot} {rest st0 : List Value} {a : Array Value} {A : Nat → Prop} {H0 : Heap} {D : va_G} {cl : List vw_C} {tys : List (ClassId × FieldType)} {w wc : va_W} {wf : (Nat → Nat) → va_W}
/-- a constructor's call: its cells come behind the rest -/
theorem gC (hr : va_Run p l e R s m args below meth c H locs cells slots mc ms (F0 m pc ls st0) rest (va_Qv (fun (_ : Nat → Nat) => True) (fun x t => atW D cl tys (va_A wc H.size) (wf x) t) (va_A wc H.size) a) (va_A wc H.size)) (hP : va_P D cl w H) (hD : va_D A w) (hS : va_S A H0 H locs) (hA : ∀ q, H0.size ≤ q → A q) (isC isR : List Nat) (hC : isC.map (fun i => w[i]?) = wc.map some) (hR : isR.map (fun i => w[i]?) = (isR.filterMap (fun i => w[i]?)).map some) (hn : va_nd isR = true) (hdis : ∀ i ∈ isR, i ∉ isC)
    (kk : ∀ (x : Nat → Nat) (H1 : Heap) (locs1 : List Loc), va_P D cl (isR.filterMap (fun i => w[i]?) ++ wf x) H1 → va_D A (isR.filterMap (fun i => w[i]?) ++ wf x) → va_S A H0 H1 locs1 → W p l e R s m args below meth c H1 locs1 (cells + mc) (slots + ms) Q (F0 m (pc + 3) ls rest)) : W p l e R s m args below meth c H locs cells slots Q (F0 m pc ls st0) := by
  have hFc := va_free (wc := wc) hD hS hA isC hC
  refine va_callv hr hS (fun q _ h => hFc q h) hFc (fun x t H1 locs1 ht hvm hp hB hz1 hk1 hS1 => ?_)
  obtain ⟨hP1, hK1, hD1⟩ := hB
  rw [ht] at hP1
  obtain ⟨hP2, hD2⟩ := va_join hP hD isC isR hC hR hn hdis hk1 hFc hP1 hD1
  exact kk x H1 locs1 hP2 hD2 hS1
theorem gRetC {cc : ByteArray} (x : Nat → Nat) (hx : p.tables.exec = Jvm.exec) (hb : c.code = cc) (hr : meth.sig.returnType = none) (hlocks : meth.locks = false) (hK : va_K D cl tys s) (hP : va_P D cl w H) (hD : va_D A w) (hS : va_S A s.heap H locs) (pm : List Nat) (hpm : va_nd pm = true) (hw : pm.map (fun i => w[i]?) = (wf x).map some) (hdg : decode cc pc = .ok (.return_, 1)) :
    W p l e R s m args below meth c H locs cells slots (MQ below (va_Qv (fun (_ : Nat → Nat) => True) (fun x t => atW D cl tys A (wf x) t) A) args s cells slots A) (F0 m pc ls []) := by
  have hP2 : va_P D cl (wf x) H := by
    intro k q hk
    have h1 : (pm.map (fun i => w[i]?))[k]? = some (some q) := by rw [hw, List.getElem?_map, hk]; rfl
    rw [List.getElem?_map] at h1
    cases hi : pm[k]? with
    | none => rw [hi] at h1; cases h1
    | some i => rw [hi] at h1; exact hP i q (Option.some.inj h1)
  exact W.vret hx hb hr (fun t ht hW => ⟨⟨x, rfl, trivial, by rw [ht]; exact hP2, va_K.moved hW.alike hK, hD.sub pm hpm hw⟩, hS.F ht⟩) hS.2.2 hdg hlocks
end GC
def iQ : TQ := ((fun _ => 0), 0, 0)
theorem inX3_init_X3 : ∀ w ∈ wsX30, w ∈ wsX3_init := by decide +kernel
set_option maxRecDepth 100000 in
set_option maxHeartbeats 4000000 in
theorem ctX3_init (l : Launch) (D : va_G) (cI : ClassId) (a0 : Nat) (x1 : Int32) (n : Nat) (hx1 : ¬ x1 < 0) (hx2 : x1.toNatClampNeg = n) (hx3 : n ≤ 1000) (sz : Nat) : Met l yX3_init wsX3_init { frames := 1, cells := 1, slots := n, locals := 12 } (va_Pc [.ref a0, .int x1] (fun U => pcW D vwCl [(cI, .int)] sz [(a0, .inr (2, [.null, .int 0, .int 0]))] U)) (va_Qv (fun (_ : Nat → Nat) => True) (fun x t => atW D vwCl [(cI, .int)] (va_A [(a0, .inr (2, [.null, .int 0, .int 0]))] sz) (wQ a0 (x 1) cI n iQ) t) (va_A [(a0, .inr (2, [.null, .int 0, .int 0]))] sz)) 1 n (va_A [(a0, .inr (2, [.null, .int 0, .int 0]))] sz) := by
  refine Met.ofW (cc := cX3_init) (maxL := 2) (ret := none) (by decide) rfl ?_
  intro p e s m args below meth c s₁ B hml hv
  obtain ⟨rfl, hsz, hP, hK, hD0⟩ := hv
  have hx := B.exec
  have hb := B.bytes
  have hr := B.returns
  have hts := atoms_spec (ws := wsX3_init) B.pre
  have hown : s.vm.findClass RX3 = some m.cls := findClass_of_methodNamed B.named
  have hlocks := B.notSynchronized
  have hin : meth.name = "<init>" := (name_of_methodNamed B.named B.method).1
  subst hsz
  have hD := hD0.self (sz := s.heap.size)
  generalize hAe : va_A [(a0, .inr (2, [.null, .int 0, .int 0]))] s.heap.size = A at hD ⊢
  have hA : ∀ q : Nat, s.heap.size ≤ q → A q := fun q h => by rw [← hAe]; exact Or.inr h
  have hS : va_S A s.heap s.heap [] := va_S.rf
  have hl := lv_entry ([.ref a0, .int x1]) (n := 2) (Nat.le_of_ble_eq_true rfl)
  rw [lg_entry_eq]
  generalize (lg_sl ([.ref a0, .int x1]) ++ List.replicate (2 - (lg_sl ([.ref a0, .int x1])).length) Slot.unset).toArray = ls at hl ⊢
  have hl : lv_has ls 2 [(0, .ref a0), (1, .int x1)] := hl
  refine lv_aload_n hx hb dX3_init_0 rfl (lv_at hl 0 rfl) ?_
  refine W.objInit hx hb hown (hts (.methodLink RX3 1 objectInit) (by decide +kernel)) (hts (.instanceMethod objectInit) (by decide +kernel)) (hts (.code objectInit ⟨#[0xb1]⟩ 1 none) (by decide +kernel)) rfl (by rw [hml]; exact hl.1) rfl dX3_init_1 (Nat.le_of_ble_eq_true rfl) (Nat.le_of_ble_eq_true rfl) ?_
  refine W.eq (g2 := F0 m 4 ls []) rfl ?_
  refine lv_aload_n hx hb dX3_init_4 rfl (lv_at hl 0 rfl) ?_
  refine lv_iload_n hx hb dX3_init_5 rfl (lv_at hl 1 rfl) ?_
  refine va_newa (atype := .int) (ty := .int) (N' := n) (a0 := (n, .inl (fun _ => 0))) hx hb (hts (.arrayClass .int) (by decide +kernel)) rfl hK hP hD hS hA (newi n) hx1 hx2 (by show n * 4 ≤ 536870912; omega) (by show 0 + 1 ≤ 1; omega) (by show 0 + n ≤ n; omega) dX3_init_6 (fun q1 cA H hK1 hP hD hS => ?_)
  obtain rfl := same_int hK1 0 1 rfl rfl
  clear hK1
  replace hP : va_P D vwCl [(a0, .inr (2, [.null, .int 0, .int 0])), (q1, .inl (cI, n, .inl (fun _ => 0)))] H := hP
  replace hD : va_D A [(a0, .inr (2, [.null, .int 0, .int 0])), (q1, .inl (cI, n, .inl (fun _ => 0)))] := hD
  refine va_putF (D := D) (ci := 2) (v := .ref q1) (ty := .array .int) (C := RX3) (T := TX3) (N := 3) hx hb hts inX3_init_X3 tyX3 tyX3_ok nmX3 hown hK hP hD hS 0 rfl rfl 0 (by decide) (hts (.fieldLink RX3 7 "BlockCache$Queue" "ring" "[I") (by decide +kernel)) (fun _ h9 => h9) rfl hin rfl (by decide +kernel) rfl rfl (Nat.le_of_ble_eq_true rfl) dX3_init_8 (fun H locs hP hD hS => ?_)
  replace hP : va_P D vwCl [(a0, .inr (2, [.ref q1, .int 0, .int 0])), (q1, .inl (cI, n, .inl (fun _ => 0)))] H := hP
  replace hD : va_D A [(a0, .inr (2, [.ref q1, .int 0, .int 0])), (q1, .inl (cI, n, .inl (fun _ => 0)))] := hD
  refine W.widen (k := 1) (n := n) (by omega) (by omega) ?_
  exact gRetC (wf := fun x : Nat → Nat => wQ a0 (x 1) cI n iQ) (fun i => match i with | 1 => q1 | _ => 0) hx hb hr hlocks hK hP hD hS [0, 1] (by decide) rfl dX3_init_11

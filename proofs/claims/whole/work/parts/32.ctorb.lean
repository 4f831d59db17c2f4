def iG : TG := ((fun _ => 0), (fun _ => 0), iQ, (fun _ => 0), 0, (-1))
theorem inX2_init_X2 : ∀ w ∈ wsX20, w ∈ wsX2_init := by decide +kernel
theorem inX2_init_X3 : ∀ w ∈ wsX30, w ∈ wsX2_init := by decide +kernel
set_option maxRecDepth 100000 in
set_option maxHeartbeats 4000000 in
theorem ctX2_init (l : Launch) (D : va_G) (cI : ClassId) (a0 : Nat) (sz : Nat) : Met l yX2_init wsX2_init { frames := 2, cells := 5, slots := 401, locals := 33 } (va_Pc [.ref a0] (fun U => pcW D vwCl [(cI, .int)] sz [(a0, .inr (1, [.null, .null, .null, .null, .int 0, .int 0]))] U)) (va_Qv (fun (_ : Nat → Nat) => True) (fun x t => atW D vwCl [(cI, .int)] (va_A [(a0, .inr (1, [.null, .null, .null, .null, .int 0, .int 0]))] sz) (wG a0 (x 1) (x 2) (x 3) (x 4) (x 5) cI iG) t) (va_A [(a0, .inr (1, [.null, .null, .null, .null, .int 0, .int 0]))] sz)) 5 401 (va_A [(a0, .inr (1, [.null, .null, .null, .null, .int 0, .int 0]))] sz) := by
  refine Met.ofW (cc := cX2_init) (maxL := 1) (ret := none) (by decide) rfl ?_
  intro p e s m args below meth c s₁ B hml hv
  obtain ⟨rfl, hsz, hP, hK, hD0⟩ := hv
  have hx := B.exec
  have hb := B.bytes
  have hr := B.returns
  have hts := atoms_spec (ws := wsX2_init) B.pre
  have hown : s.vm.findClass RX2 = some m.cls := findClass_of_methodNamed B.named
  have hlocks := B.notSynchronized
  have hin : meth.name = "<init>" := (name_of_methodNamed B.named B.method).1
  subst hsz
  have hD := hD0.self (sz := s.heap.size)
  generalize hAe : va_A [(a0, .inr (1, [.null, .null, .null, .null, .int 0, .int 0]))] s.heap.size = A at hD ⊢
  have hA : ∀ q : Nat, s.heap.size ≤ q → A q := fun q h => by rw [← hAe]; exact Or.inr h
  have hS : va_S A s.heap s.heap [] := va_S.rf
  have hl := lv_entry ([.ref a0]) (n := 1) (Nat.le_of_ble_eq_true rfl)
  rw [lg_entry_eq]
  generalize (lg_sl ([.ref a0]) ++ List.replicate (1 - (lg_sl ([.ref a0])).length) Slot.unset).toArray = ls at hl ⊢
  have hl : lv_has ls 1 [(0, .ref a0)] := hl
  refine lv_aload_n hx hb dX2_init_0 rfl (lv_at hl 0 rfl) ?_
  refine W.objInit hx hb hown (hts (.methodLink RX2 3 objectInit) (by decide +kernel)) (hts (.instanceMethod objectInit) (by decide +kernel)) (hts (.code objectInit ⟨#[0xb1]⟩ 1 none) (by decide +kernel)) rfl (by rw [hml]; exact hl.1) rfl dX2_init_1 (Nat.le_of_ble_eq_true rfl) (Nat.le_of_ble_eq_true rfl) ?_
  refine W.eq (g2 := F0 m 4 ls []) rfl ?_
  refine lv_aload_n hx hb dX2_init_4 rfl (lv_at hl 0 rfl) ?_
  refine lv_bipush (v := 10) hx hb dX2_init_5 (by decide) ?_
  refine va_newa (atype := .int) (ty := .int) (N' := 10) (a0 := (10, .inl (fun _ => 0))) hx hb (hts (.arrayClass .int) (by decide +kernel)) rfl hK hP hD hS hA (newi 10) (by decide) (by decide) (by decide) (Nat.le_of_ble_eq_true rfl) (Nat.le_of_ble_eq_true rfl) dX2_init_7 (fun q1 cA H hK1 hP hD hS => ?_)
  obtain rfl := same_int hK1 0 1 rfl rfl
  clear hK1
  replace hP : va_P D vwCl [(a0, .inr (1, [.null, .null, .null, .null, .int 0, .int 0])), (q1, .inl (cI, 10, .inl (fun _ => 0)))] H := hP
  replace hD : va_D A [(a0, .inr (1, [.null, .null, .null, .null, .int 0, .int 0])), (q1, .inl (cI, 10, .inl (fun _ => 0)))] := hD
  refine va_putF (D := D) (ci := 1) (v := .ref q1) (ty := .array .int) (C := RX2) (T := TX2) (N := 6) hx hb hts inX2_init_X2 tyX2 tyX2_ok nmX2 hown hK hP hD hS 0 rfl rfl 0 (by decide) (hts (.fieldLink RX2 9 "BlockCache$Guest" "state" "[I") (by decide +kernel)) (fun _ h9 => h9) rfl hin rfl (by decide +kernel) rfl rfl (Nat.le_of_ble_eq_true rfl) dX2_init_9 (fun H locs hP hD hS => ?_)
  replace hP : va_P D vwCl [(a0, .inr (1, [.ref q1, .null, .null, .null, .int 0, .int 0])), (q1, .inl (cI, 10, .inl (fun _ => 0)))] H := hP
  replace hD : va_D A [(a0, .inr (1, [.ref q1, .null, .null, .null, .int 0, .int 0])), (q1, .inl (cI, 10, .inl (fun _ => 0)))] := hD
  refine lv_aload_n hx hb dX2_init_12 rfl (lv_at hl 0 rfl) ?_
  refine lv_sipush (v := 256) hx hb dX2_init_13 (by decide) ?_
  refine va_newa (atype := .int) (ty := .int) (N' := 256) (a0 := (256, .inl (fun _ => 0))) hx hb (hts (.arrayClass .int) (by decide +kernel)) rfl hK hP hD hS hA (newi 256) (by decide) (by decide) (by decide) (Nat.le_of_ble_eq_true rfl) (Nat.le_of_ble_eq_true rfl) dX2_init_16 (fun q2 cA H hK1 hP hD hS => ?_)
  obtain rfl := same_int hK1 0 1 rfl rfl
  clear hK1
  replace hP : va_P D vwCl [(a0, .inr (1, [.ref q1, .null, .null, .null, .int 0, .int 0])), (q1, .inl (cI, 10, .inl (fun _ => 0))), (q2, .inl (cI, 256, .inl (fun _ => 0)))] H := hP
  replace hD : va_D A [(a0, .inr (1, [.ref q1, .null, .null, .null, .int 0, .int 0])), (q1, .inl (cI, 10, .inl (fun _ => 0))), (q2, .inl (cI, 256, .inl (fun _ => 0)))] := hD
  refine va_putF (D := D) (ci := 1) (v := .ref q2) (ty := .array .int) (C := RX2) (T := TX2) (N := 6) hx hb hts inX2_init_X2 tyX2 tyX2_ok nmX2 hown hK hP hD hS 0 rfl rfl 1 (by decide) (hts (.fieldLink RX2 15 "BlockCache$Guest" "memory" "[I") (by decide +kernel)) (fun _ h9 => h9) rfl hin rfl (by decide +kernel) rfl rfl (Nat.le_of_ble_eq_true rfl) dX2_init_18 (fun H locs hP hD hS => ?_)
  replace hP : va_P D vwCl [(a0, .inr (1, [.ref q1, .ref q2, .null, .null, .int 0, .int 0])), (q1, .inl (cI, 10, .inl (fun _ => 0))), (q2, .inl (cI, 256, .inl (fun _ => 0)))] H := hP
  replace hD : va_D A [(a0, .inr (1, [.ref q1, .ref q2, .null, .null, .int 0, .int 0])), (q1, .inl (cI, 10, .inl (fun _ => 0))), (q2, .inl (cI, 256, .inl (fun _ => 0)))] := hD
  refine lv_aload_n hx hb dX2_init_21 rfl (lv_at hl 0 rfl) ?_
  refine va_new (ci := 2) (fs := [.null, .int 0, .int 0]) (C := RX3) (T := TX3) (N := 3) hx hb hts inX2_init_X3 tyX3 tyX3_ok hown (hts (.classLink RX2 18 RX3) (by decide +kernel)) (hts (.instantiable RX3 3) (by decide +kernel)) (hts (.initialized RX3) (by decide +kernel)) hK hP hD hS hA rfl (fun j hj => by rcases (show j = 0 ∨ j = 1 ∨ j = 2 by omega) with rfl | rfl | rfl <;> rfl) (Nat.le_of_ble_eq_true rfl) (Nat.le_of_ble_eq_true rfl) dX2_init_22 (fun q3 H hP hD hS => ?_)
  replace hP : va_P D vwCl [(a0, .inr (1, [.ref q1, .ref q2, .null, .null, .int 0, .int 0])), (q1, .inl (cI, 10, .inl (fun _ => 0))), (q2, .inl (cI, 256, .inl (fun _ => 0))), (q3, .inr (2, [.null, .int 0, .int 0]))] H := hP
  replace hD : va_D A [(a0, .inr (1, [.ref q1, .ref q2, .null, .null, .int 0, .int 0])), (q1, .inl (cI, 10, .inl (fun _ => 0))), (q2, .inl (cI, 256, .inl (fun _ => 0))), (q3, .inr (2, [.null, .int 0, .int 0]))] := hD
  refine lv_dup hx hb dX2_init_25 rfl ?_
  refine lv_bipush (v := 32) hx hb dX2_init_26 (by decide) ?_
  refine gC (va_runI (As := [.int 32]) (rest := [.ref q3, .ref a0]) ⟨hx, hb, hml, hown, hts⟩ (ctX3_init l D cI q3 32 32 (by decide) (by decide) (by decide) H.size) (cwI 1 hts gX2_init_X3_init rfl rfl rfl (hts (.initialized RX3) (by decide +kernel)) (hts (.methodLink RX2 20 yX3_init) (by decide +kernel)) (hts (.instanceMethod yX3_init) (by decide +kernel)) rfl (by decide +kernel) ⟨Nat.le_of_ble_eq_true rfl, Nat.le_of_ble_eq_true rfl⟩) (gPreS hP hK hD [3] (by decide) rfl) rfl rfl hl.1 rfl (lv_room (Nat.le_of_ble_eq_true rfl)) dX2_init_28 ⟨Nat.le_of_ble_eq_true rfl, Nat.le_of_ble_eq_true rfl⟩) hP hD hS hA [3] [0, 1, 2] rfl rfl (by decide) (by decide) (fun xq3 H locs hP hD hS => ?_)
  replace hP : va_P D vwCl [(a0, .inr (1, [.ref q1, .ref q2, .null, .null, .int 0, .int 0])), (q1, .inl (cI, 10, .inl (fun _ => 0))), (q2, .inl (cI, 256, .inl (fun _ => 0))), (q3, .inr (2, [.ref (xq3 1), .int (gQ_start iQ), .int (gQ_many iQ)])), ((xq3 1), .inl (cI, 32, .inl (gQ_ring iQ)))] H := hP
  replace hD : va_D A [(a0, .inr (1, [.ref q1, .ref q2, .null, .null, .int 0, .int 0])), (q1, .inl (cI, 10, .inl (fun _ => 0))), (q2, .inl (cI, 256, .inl (fun _ => 0))), (q3, .inr (2, [.ref (xq3 1), .int (gQ_start iQ), .int (gQ_many iQ)])), ((xq3 1), .inl (cI, 32, .inl (gQ_ring iQ)))] := hD
  refine va_putF (D := D) (ci := 1) (v := .ref q3) (ty := .object "BlockCache$Queue") (C := RX2) (T := TX2) (N := 6) hx hb hts inX2_init_X2 tyX2 tyX2_ok nmX2 hown hK hP hD hS 0 rfl rfl 2 (by decide) (hts (.fieldLink RX2 23 "BlockCache$Guest" "inputs" "LBlockCache$Queue;") (by decide +kernel)) (fun _ h9 => h9) rfl hin rfl (by decide +kernel) rfl rfl (Nat.le_of_ble_eq_true rfl) dX2_init_31 (fun H locs hP hD hS => ?_)
  replace hP : va_P D vwCl [(a0, .inr (1, [.ref q1, .ref q2, .ref q3, .null, .int 0, .int 0])), (q1, .inl (cI, 10, .inl (fun _ => 0))), (q2, .inl (cI, 256, .inl (fun _ => 0))), (q3, .inr (2, [.ref (xq3 1), .int (gQ_start iQ), .int (gQ_many iQ)])), ((xq3 1), .inl (cI, 32, .inl (gQ_ring iQ)))] H := hP
  replace hD : va_D A [(a0, .inr (1, [.ref q1, .ref q2, .ref q3, .null, .int 0, .int 0])), (q1, .inl (cI, 10, .inl (fun _ => 0))), (q2, .inl (cI, 256, .inl (fun _ => 0))), (q3, .inr (2, [.ref (xq3 1), .int (gQ_start iQ), .int (gQ_many iQ)])), ((xq3 1), .inl (cI, 32, .inl (gQ_ring iQ)))] := hD
  refine lv_aload_n hx hb dX2_init_34 rfl (lv_at hl 0 rfl) ?_
  refine lv_bipush (v := 100) hx hb dX2_init_35 (by decide) ?_
  refine va_newa (atype := .int) (ty := .int) (N' := 100) (a0 := (100, .inl (fun _ => 0))) hx hb (hts (.arrayClass .int) (by decide +kernel)) rfl hK hP hD hS hA (newi 100) (by decide) (by decide) (by decide) (Nat.le_of_ble_eq_true rfl) (Nat.le_of_ble_eq_true rfl) dX2_init_37 (fun q4 cA H hK1 hP hD hS => ?_)
  obtain rfl := same_int hK1 0 1 rfl rfl
  clear hK1
  replace hP : va_P D vwCl [(a0, .inr (1, [.ref q1, .ref q2, .ref q3, .null, .int 0, .int 0])), (q1, .inl (cI, 10, .inl (fun _ => 0))), (q2, .inl (cI, 256, .inl (fun _ => 0))), (q3, .inr (2, [.ref (xq3 1), .int (gQ_start iQ), .int (gQ_many iQ)])), ((xq3 1), .inl (cI, 32, .inl (gQ_ring iQ))), (q4, .inl (cI, 100, .inl (fun _ => 0)))] H := hP
  replace hD : va_D A [(a0, .inr (1, [.ref q1, .ref q2, .ref q3, .null, .int 0, .int 0])), (q1, .inl (cI, 10, .inl (fun _ => 0))), (q2, .inl (cI, 256, .inl (fun _ => 0))), (q3, .inr (2, [.ref (xq3 1), .int (gQ_start iQ), .int (gQ_many iQ)])), ((xq3 1), .inl (cI, 32, .inl (gQ_ring iQ))), (q4, .inl (cI, 100, .inl (fun _ => 0)))] := hD
  refine va_putF (D := D) (ci := 1) (v := .ref q4) (ty := .array .int) (C := RX2) (T := TX2) (N := 6) hx hb hts inX2_init_X2 tyX2 tyX2_ok nmX2 hown hK hP hD hS 0 rfl rfl 3 (by decide) (hts (.fieldLink RX2 27 "BlockCache$Guest" "outputs" "[I") (by decide +kernel)) (fun _ h9 => h9) rfl hin rfl (by decide +kernel) rfl rfl (Nat.le_of_ble_eq_true rfl) dX2_init_39 (fun H locs hP hD hS => ?_)
  replace hP : va_P D vwCl [(a0, .inr (1, [.ref q1, .ref q2, .ref q3, .ref q4, .int 0, .int 0])), (q1, .inl (cI, 10, .inl (fun _ => 0))), (q2, .inl (cI, 256, .inl (fun _ => 0))), (q3, .inr (2, [.ref (xq3 1), .int (gQ_start iQ), .int (gQ_many iQ)])), ((xq3 1), .inl (cI, 32, .inl (gQ_ring iQ))), (q4, .inl (cI, 100, .inl (fun _ => 0)))] H := hP
  replace hD : va_D A [(a0, .inr (1, [.ref q1, .ref q2, .ref q3, .ref q4, .int 0, .int 0])), (q1, .inl (cI, 10, .inl (fun _ => 0))), (q2, .inl (cI, 256, .inl (fun _ => 0))), (q3, .inr (2, [.ref (xq3 1), .int (gQ_start iQ), .int (gQ_many iQ)])), ((xq3 1), .inl (cI, 32, .inl (gQ_ring iQ))), (q4, .inl (cI, 100, .inl (fun _ => 0)))] := hD
  refine lv_aload_n hx hb dX2_init_42 rfl (lv_at hl 0 rfl) ?_
  refine lv_iconst (v := (-1)) hx hb dX2_init_43 (by decide) ?_
  refine va_put (D := D) (ci := 1) (v := .int (-1)) (ty := .int) (C := RX2) (T := TX2) (N := 6) hx hb hts inX2_init_X2 tyX2 tyX2_ok nmX2 hown hK hP hD hS 0 rfl rfl 5 (by decide) (hts (.fieldLink RX2 30 "BlockCache$Guest" "written" "I") (by decide +kernel)) (fun _ h9 => h9) rfl (by decide +kernel) rfl rfl (Nat.le_of_ble_eq_true rfl) dX2_init_44 (fun H locs hP hD hS => ?_)
  replace hP : va_P D vwCl [(a0, .inr (1, [.ref q1, .ref q2, .ref q3, .ref q4, .int 0, .int (-1)])), (q1, .inl (cI, 10, .inl (fun _ => 0))), (q2, .inl (cI, 256, .inl (fun _ => 0))), (q3, .inr (2, [.ref (xq3 1), .int (gQ_start iQ), .int (gQ_many iQ)])), ((xq3 1), .inl (cI, 32, .inl (gQ_ring iQ))), (q4, .inl (cI, 100, .inl (fun _ => 0)))] H := hP
  replace hD : va_D A [(a0, .inr (1, [.ref q1, .ref q2, .ref q3, .ref q4, .int 0, .int (-1)])), (q1, .inl (cI, 10, .inl (fun _ => 0))), (q2, .inl (cI, 256, .inl (fun _ => 0))), (q3, .inr (2, [.ref (xq3 1), .int (gQ_start iQ), .int (gQ_many iQ)])), ((xq3 1), .inl (cI, 32, .inl (gQ_ring iQ))), (q4, .inl (cI, 100, .inl (fun _ => 0)))] := hD
  refine W.widen (k := 5) (n := 401) (Nat.le_of_ble_eq_true rfl) (Nat.le_of_ble_eq_true rfl) ?_
  exact gRetC (wf := fun x : Nat → Nat => wG a0 (x 1) (x 2) (x 3) (x 4) (x 5) cI iG) (fun i => match i with | 1 => q1 | 2 => q2 | 3 => q3 | 4 => (xq3 1) | 5 => q4 | _ => 0) hx hb hr hlocks hK hP hD hS [0, 1, 2, 3, 4, 5] (by decide) rfl dX2_init_47

abbrev rmX2_write : Room := { frames := 0, cells := 0, slots := 0, locals := 0 }
theorem inX2_write_X2 : ∀ w ∈ wsX20, w ∈ wsX2_write := by decide +kernel
set_option maxRecDepth 100000 in
set_option maxHeartbeats 4000000 in
theorem wkX2_write {p : Program} {l : Launch} {e : Env} {s : State} {m : MethodId} {args : Array Value} {below : List Frame} {meth : Method} {c : Code} {D : va_G} {cI : ClassId} {A : Nat → Prop} {a0 a1 a2 a3 a4 a5 : Nat} (C : cxt p s m args meth c cX2_write none 3 RX2 wsX2_write D vwCl [(cI, .int)] A) : ∀ (z : TG) (u : TG) (x1 : Int32) (x2 : Int32) (H : Heap) (locs : List Loc) (ls : Array Slot), fX2_write u x1 x2 = some z → va_P D vwCl (wG a0 a1 a2 a3 a4 a5 cI u) H → va_D A (wG a0 a1 a2 a3 a4 a5 cI u) → va_S A s.heap H locs → lv_has ls 3 [(0, .ref a0), (1, .int x1), (2, .int x2)] → W p l e rmX2_write s m args below meth c H locs 0 0 (MQ below (oV D vwCl [(cI, .int)] A (wG a0 a1 a2 a3 a4 a5 cI z)) args s 0 0 A) (F0 m 0 ls []) := by
  have C0 := C
  obtain ⟨hx, hb, hr, hml, hown, hts, hlocks, hK, hA⟩ := C
  intro z u x1 x2 H locs ls hf hP hD hS hl
  unfold fX2_write at hf
  refine lv_aload_n hx hb dX2_write_0 rfl (lv_at hl 0 rfl) ?_
  refine va_get (D := D) (ci := 1) (v := .ref a2) (C := RX2) (T := TX2) (N := 6) hx hb hts inX2_write_X2 hown hK hP 0 rfl rfl 1 (by decide) (hts (.fieldLink RX2 15 "BlockCache$Guest" "memory" "[I") (by decide +kernel)) (fun _ h9 => h9) rfl dX2_write_1 ?_
  refine lv_iload_n hx hb dX2_write_4 rfl (lv_at hl 1 rfl) ?_
  refine lv_iload_n hx hb dX2_write_5 rfl (lv_at hl 2 rfl) ?_
  obtain ⟨h_1, hf⟩ := pIn_out hf
  refine va_iast hx hb hK hP hD hS 2 0 rfl rfl h_1 dX2_write_6 (fun H locs hP hD hS => ?_)
  obtain ⟨u_2, eu_2, hf⟩ := pLet_out hf
  replace hP : va_P D vwCl (wG a0 a1 a2 a3 a4 a5 cI u_2) H := by rw [eu_2]; exact hP
  replace hD : va_D A (wG a0 a1 a2 a3 a4 a5 cI u_2) := by rw [eu_2]; exact hD
  refine lv_aload_n hx hb dX2_write_7 rfl (lv_at hl 0 rfl) ?_
  refine lv_iload_n hx hb dX2_write_8 rfl (lv_at hl 1 rfl) ?_
  refine va_put (D := D) (ci := 1) (v := .int x1) (ty := .int) (C := RX2) (T := TX2) (N := 6) hx hb hts inX2_write_X2 tyX2 tyX2_ok nmX2 hown hK hP hD hS 0 rfl rfl 5 (by decide) (hts (.fieldLink RX2 30 "BlockCache$Guest" "written" "I") (by decide +kernel)) (fun _ h9 => h9) rfl (by decide +kernel) rfl rfl (Nat.le_of_ble_eq_true rfl) dX2_write_9 (fun H locs hP hD hS => ?_)
  obtain ⟨u_3, eu_3, hf⟩ := pLet_out hf
  replace hP : va_P D vwCl (wG a0 a1 a2 a3 a4 a5 cI u_3) H := by rw [eu_3]; exact hP
  replace hD : va_D A (wG a0 a1 a2 a3 a4 a5 cI u_3) := by rw [eu_3]; exact hD
  have hz := Option.some.inj hf
  subst hz
  exact gRetV hx hb hr hlocks hK hP hD hS rfl dX2_write_12
theorem ctX2_write (l : Launch) (D : va_G) (cI : ClassId) (a0 a1 a2 a3 a4 a5 : Nat) (u : TG) (x1 : Int32) (x2 : Int32) (z : TG) (hz : fX2_write u x1 x2 = some z) : CtV l yX2_write wsX2_write rmX2_write D vwCl [(cI, .int)] [.ref a0, .int x1, .int x2] (wG a0 a1 a2 a3 a4 a5 cI u) (wG a0 a1 a2 a3 a4 a5 cI z) :=
  ctV_of (cc := cX2_write) (maxL := 3) (ret := none) (by decide) rfl (Nat.le_of_ble_eq_true rfl) (fun p e s m below meth c A ls C hl hP hD hS => wkX2_write C z _ _ _ s.heap [] ls hz hP hD hS hl)
abbrev rmX2_push : Room := { frames := 1, cells := 0, slots := 0, locals := 22 }
theorem inX2_push_X2 : ∀ w ∈ wsX20, w ∈ wsX2_push := by decide +kernel
set_option maxRecDepth 100000 in
set_option maxHeartbeats 4000000 in
theorem wkX2_push {p : Program} {l : Launch} {e : Env} {s : State} {m : MethodId} {args : Array Value} {below : List Frame} {meth : Method} {c : Code} {D : va_G} {cI : ClassId} {A : Nat → Prop} {a0 a1 a2 a3 a4 a5 : Nat} (C : cxt p s m args meth c cX2_push none 2 RX2 wsX2_push D vwCl [(cI, .int)] A) : ∀ (z : TG) (u : TG) (x1 : Int32) (H : Heap) (locs : List Loc) (ls : Array Slot), fX2_push u x1 = some z → va_P D vwCl (wG a0 a1 a2 a3 a4 a5 cI u) H → va_D A (wG a0 a1 a2 a3 a4 a5 cI u) → va_S A s.heap H locs → lv_has ls 2 [(0, .ref a0), (1, .int x1)] → W p l e rmX2_push s m args below meth c H locs 0 0 (MQ below (oV D vwCl [(cI, .int)] A (wG a0 a1 a2 a3 a4 a5 cI z)) args s 0 0 A) (F0 m 0 ls []) := by
  have C0 := C
  obtain ⟨hx, hb, hr, hml, hown, hts, hlocks, hK, hA⟩ := C
  intro z u x1 H locs ls hf hP hD hS hl
  unfold fX2_push at hf
  refine lv_aload_n hx hb dX2_push_0 rfl (lv_at hl 0 rfl) ?_
  refine va_get (D := D) (ci := 1) (v := .ref a1) (C := RX2) (T := TX2) (N := 6) hx hb hts inX2_push_X2 hown hK hP 0 rfl rfl 0 (by decide) (hts (.fieldLink RX2 9 "BlockCache$Guest" "state" "[I") (by decide +kernel)) (fun _ h9 => h9) rfl dX2_push_1 ?_
  refine lv_iconst (v := 4) hx hb dX2_push_4 (by decide) ?_
  refine lv_aload_n hx hb dX2_push_5 rfl (lv_at hl 0 rfl) ?_
  refine va_get (D := D) (ci := 1) (v := .ref a1) (C := RX2) (T := TX2) (N := 6) hx hb hts inX2_push_X2 hown hK hP 0 rfl rfl 0 (by decide) (hts (.fieldLink RX2 9 "BlockCache$Guest" "state" "[I") (by decide +kernel)) (fun _ h9 => h9) rfl dX2_push_6 ?_
  refine lv_iconst (v := 4) hx hb dX2_push_9 (by decide) ?_
  obtain ⟨h_1, hf⟩ := pIn_out hf
  refine va_iald hx hb hK hP 1 0 rfl rfl h_1 dX2_push_10 ?_
  refine lv_iconst (v := 1) hx hb dX2_push_11 (by decide) ?_
  refine lv_isub hx hb dX2_push_12 ?_
  refine lv_sipush (v := 255) hx hb dX2_push_13 (by decide) ?_
  refine lv_iand hx hb dX2_push_16 ?_
  obtain ⟨h_2, hf⟩ := pIn_out hf
  refine va_iast hx hb hK hP hD hS 1 0 rfl rfl h_2 dX2_push_17 (fun H locs hP hD hS => ?_)
  obtain ⟨u_3, eu_3, hf⟩ := pLet_out hf
  replace hP : va_P D vwCl (wG a0 a1 a2 a3 a4 a5 cI u_3) H := by rw [eu_3]; exact hP
  replace hD : va_D A (wG a0 a1 a2 a3 a4 a5 cI u_3) := by rw [eu_3]; exact hD
  refine lv_aload_n hx hb dX2_push_18 rfl (lv_at hl 0 rfl) ?_
  refine lv_aload_n hx hb dX2_push_19 rfl (lv_at hl 0 rfl) ?_
  refine va_get (D := D) (ci := 1) (v := .ref a1) (C := RX2) (T := TX2) (N := 6) hx hb hts inX2_push_X2 hown hK hP 0 rfl rfl 0 (by decide) (hts (.fieldLink RX2 9 "BlockCache$Guest" "state" "[I") (by decide +kernel)) (fun _ h9 => h9) rfl dX2_push_20 ?_
  refine lv_iconst (v := 4) hx hb dX2_push_23 (by decide) ?_
  obtain ⟨h_4, hf⟩ := pIn_out hf
  refine va_iald hx hb hK hP 1 0 rfl rfl h_4 dX2_push_24 ?_
  refine lv_iload_n hx hb dX2_push_25 rfl (lv_at hl 1 rfl) ?_
  obtain ⟨z_5, hz_5, hf⟩ := pB_out hf
  refine gV (w' := (wG a0 a1 a2 a3 a4 a5 cI z_5)) (va_runV (As := [.int ((gG_state u_3) ((4 : Int32)).toNatClampNeg), .int x1]) (rest := []) ⟨hx, hb, hml, hown, hts⟩ (ctX2_write l D cI a0 a1 a2 a3 a4 a5 u_3 ((gG_state u_3) ((4 : Int32)).toNatClampNeg) x1 z_5 hz_5 H.size) (cwV 2 hts gX2_push_X2_write rfl rfl rfl (by decide +kernel) ⟨Nat.le_of_ble_eq_true rfl, Nat.le_of_ble_eq_true rfl⟩) (gPreV (ci := 1) (C := RX2) (T := TX2) (N := 6) hP hK hD [0, 1, 2, 3, 4, 5] (by decide) rfl 0 rfl rfl) rfl rfl hl.1 rfl (lv_room (Nat.le_of_ble_eq_true rfl)) dX2_push_26 ⟨Nat.le_of_ble_eq_true rfl, Nat.le_of_ble_eq_true rfl⟩) hP hD hS hA [0, 1, 2, 3, 4, 5] [] [0, 1, 2, 3, 4, 5] rfl rfl (by decide) (by decide) rfl (by decide) (fun H locs hP hD hS => ?_)
  have hz := Option.some.inj hf
  subst hz
  exact gRetV hx hb hr hlocks hK hP hD hS rfl dX2_push_29
theorem ctX2_push (l : Launch) (D : va_G) (cI : ClassId) (a0 a1 a2 a3 a4 a5 : Nat) (u : TG) (x1 : Int32) (z : TG) (hz : fX2_push u x1 = some z) : CtV l yX2_push wsX2_push rmX2_push D vwCl [(cI, .int)] [.ref a0, .int x1] (wG a0 a1 a2 a3 a4 a5 cI u) (wG a0 a1 a2 a3 a4 a5 cI z) :=
  ctV_of (cc := cX2_push) (maxL := 2) (ret := none) (by decide) rfl (Nat.le_of_ble_eq_true rfl) (fun p e s m below meth c A ls C hl hP hD hS => wkX2_push C z _ _ s.heap [] ls hz hP hD hS hl)
abbrev rmX2_interrupt : Room := { frames := 2, cells := 0, slots := 0, locals := 43 }
theorem inX2_interrupt_X2 : ∀ w ∈ wsX20, w ∈ wsX2_interrupt := by decide +kernel
set_option maxRecDepth 100000 in
set_option maxHeartbeats 4000000 in
theorem wkX2_interrupt {p : Program} {l : Launch} {e : Env} {s : State} {m : MethodId} {args : Array Value} {below : List Frame} {meth : Method} {c : Code} {D : va_G} {cI : ClassId} {A : Nat → Prop} {a0 a1 a2 a3 a4 a5 : Nat} (C : cxt p s m args meth c cX2_interrupt none 1 RX2 wsX2_interrupt D vwCl [(cI, .int)] A) : ∀ (z : TG) (u : TG) (H : Heap) (locs : List Loc) (ls : Array Slot), fX2_interrupt u = some z → va_P D vwCl (wG a0 a1 a2 a3 a4 a5 cI u) H → va_D A (wG a0 a1 a2 a3 a4 a5 cI u) → va_S A s.heap H locs → lv_has ls 1 [(0, .ref a0)] → W p l e rmX2_interrupt s m args below meth c H locs 0 0 (MQ below (oV D vwCl [(cI, .int)] A (wG a0 a1 a2 a3 a4 a5 cI z)) args s 0 0 A) (F0 m 0 ls []) := by
  have C0 := C
  obtain ⟨hx, hb, hr, hml, hown, hts, hlocks, hK, hA⟩ := C
  intro z u H locs ls hf hP hD hS hl
  unfold fX2_interrupt at hf
  refine lv_aload_n hx hb dX2_interrupt_0 rfl (lv_at hl 0 rfl) ?_
  refine va_get (D := D) (ci := 1) (v := .ref a1) (C := RX2) (T := TX2) (N := 6) hx hb hts inX2_interrupt_X2 hown hK hP 0 rfl rfl 0 (by decide) (hts (.fieldLink RX2 9 "BlockCache$Guest" "state" "[I") (by decide +kernel)) (fun _ h9 => h9) rfl dX2_interrupt_1 ?_
  refine lv_bipush (v := 8) hx hb dX2_interrupt_4 (by decide) ?_
  refine lv_iconst (v := 0) hx hb dX2_interrupt_6 (by decide) ?_
  obtain ⟨h_1, hf⟩ := pIn_out hf
  refine va_iast hx hb hK hP hD hS 1 0 rfl rfl h_1 dX2_interrupt_7 (fun H locs hP hD hS => ?_)
  obtain ⟨u_2, eu_2, hf⟩ := pLet_out hf
  replace hP : va_P D vwCl (wG a0 a1 a2 a3 a4 a5 cI u_2) H := by rw [eu_2]; exact hP
  replace hD : va_D A (wG a0 a1 a2 a3 a4 a5 cI u_2) := by rw [eu_2]; exact hD
  refine lv_aload_n hx hb dX2_interrupt_8 rfl (lv_at hl 0 rfl) ?_
  refine lv_aload_n hx hb dX2_interrupt_9 rfl (lv_at hl 0 rfl) ?_
  refine va_get (D := D) (ci := 1) (v := .ref a1) (C := RX2) (T := TX2) (N := 6) hx hb hts inX2_interrupt_X2 hown hK hP 0 rfl rfl 0 (by decide) (hts (.fieldLink RX2 9 "BlockCache$Guest" "state" "[I") (by decide +kernel)) (fun _ h9 => h9) rfl dX2_interrupt_10 ?_
  refine lv_bipush (v := 9) hx hb dX2_interrupt_13 (by decide) ?_
  obtain ⟨h_3, hf⟩ := pIn_out hf
  refine va_iald hx hb hK hP 1 0 rfl rfl h_3 dX2_interrupt_15 ?_
  obtain ⟨z_4, hz_4, hf⟩ := pB_out hf
  refine gV (w' := (wG a0 a1 a2 a3 a4 a5 cI z_4)) (va_runV (As := [.int ((gG_state u_2) ((9 : Int32)).toNatClampNeg)]) (rest := []) ⟨hx, hb, hml, hown, hts⟩ (ctX2_push l D cI a0 a1 a2 a3 a4 a5 u_2 ((gG_state u_2) ((9 : Int32)).toNatClampNeg) z_4 hz_4 H.size) (cwV 1 hts gX2_interrupt_X2_push rfl rfl rfl (by decide +kernel) ⟨Nat.le_of_ble_eq_true rfl, Nat.le_of_ble_eq_true rfl⟩) (gPreV (ci := 1) (C := RX2) (T := TX2) (N := 6) hP hK hD [0, 1, 2, 3, 4, 5] (by decide) rfl 0 rfl rfl) rfl rfl hl.1 rfl (lv_room (Nat.le_of_ble_eq_true rfl)) dX2_interrupt_16 ⟨Nat.le_of_ble_eq_true rfl, Nat.le_of_ble_eq_true rfl⟩) hP hD hS hA [0, 1, 2, 3, 4, 5] [] [0, 1, 2, 3, 4, 5] rfl rfl (by decide) (by decide) rfl (by decide) (fun H locs hP hD hS => ?_)
  refine lv_aload_n hx hb dX2_interrupt_19 rfl (lv_at hl 0 rfl) ?_
  refine va_get (D := D) (ci := 1) (v := .ref a1) (C := RX2) (T := TX2) (N := 6) hx hb hts inX2_interrupt_X2 hown hK hP 0 rfl rfl 0 (by decide) (hts (.fieldLink RX2 9 "BlockCache$Guest" "state" "[I") (by decide +kernel)) (fun _ h9 => h9) rfl dX2_interrupt_20 ?_
  refine lv_bipush (v := 9) hx hb dX2_interrupt_23 (by decide) ?_
  refine lv_sipush (v := 240) hx hb dX2_interrupt_25 (by decide) ?_
  obtain ⟨h_5, hf⟩ := pIn_out hf
  refine va_iast hx hb hK hP hD hS 1 0 rfl rfl h_5 dX2_interrupt_28 (fun H locs hP hD hS => ?_)
  obtain ⟨u_6, eu_6, hf⟩ := pLet_out hf
  replace hP : va_P D vwCl (wG a0 a1 a2 a3 a4 a5 cI u_6) H := by rw [eu_6]; exact hP
  replace hD : va_D A (wG a0 a1 a2 a3 a4 a5 cI u_6) := by rw [eu_6]; exact hD
  have hz := Option.some.inj hf
  subst hz
  exact gRetV hx hb hr hlocks hK hP hD hS rfl dX2_interrupt_29
theorem ctX2_interrupt (l : Launch) (D : va_G) (cI : ClassId) (a0 a1 a2 a3 a4 a5 : Nat) (u : TG) (z : TG) (hz : fX2_interrupt u = some z) : CtV l yX2_interrupt wsX2_interrupt rmX2_interrupt D vwCl [(cI, .int)] [.ref a0] (wG a0 a1 a2 a3 a4 a5 cI u) (wG a0 a1 a2 a3 a4 a5 cI z) :=
  ctV_of (cc := cX2_interrupt) (maxL := 1) (ret := none) (by decide) rfl (Nat.le_of_ble_eq_true rfl) (fun p e s m below meth c A ls C hl hP hD hS => wkX2_interrupt C z _ s.heap [] ls hz hP hD hS hl)
abbrev rmX2_resultWithCarry : Room := { frames := 0, cells := 0, slots := 0, locals := 0 }
theorem inX2_resultWithCarry_X2 : ∀ w ∈ wsX20, w ∈ wsX2_resultWithCarry := by decide +kernel
set_option maxRecDepth 100000 in
set_option maxHeartbeats 4000000 in
theorem wkX2_resultWithCarry {p : Program} {l : Launch} {e : Env} {s : State} {m : MethodId} {args : Array Value} {below : List Frame} {meth : Method} {c : Code} {D : va_G} {cI : ClassId} {A : Nat → Prop} {a0 a1 a2 a3 a4 a5 : Nat} (C : cxt p s m args meth c cX2_resultWithCarry (some .int) 4 RX2 wsX2_resultWithCarry D vwCl [(cI, .int)] A) : ∀ (z : Int32) (u : TG) (x1 : Int32) (x2 : Int32) (x3 : Int32) (H : Heap) (locs : List Loc) (ls : Array Slot), fX2_resultWithCarry u x1 x2 x3 = some z → va_P D vwCl (wG a0 a1 a2 a3 a4 a5 cI u) H → va_D A (wG a0 a1 a2 a3 a4 a5 cI u) → va_S A s.heap H locs → lv_has ls 4 [(0, .ref a0), (1, .int x1), (2, .int x2), (3, .int x3)] → W p l e rmX2_resultWithCarry s m args below meth c H locs 0 0 (MQ below (oI D vwCl [(cI, .int)] A z (wG a0 a1 a2 a3 a4 a5 cI u)) args s 0 0 A) (F0 m 0 ls []) := by
  have C0 := C
  obtain ⟨hx, hb, hr, hml, hown, hts, hlocks, hK, hA⟩ := C
  intro z u x1 x2 x3 H locs ls hf hP hD hS hl
  unfold fX2_resultWithCarry at hf
  refine lv_iload_n hx hb dX2_resultWithCarry_0 rfl (lv_at hl 1 rfl) ?_
  by_cases c_1 : x1 = 7
  · replace hf := pI_t c_1 hf
    refine lv_tableIn (tgt := 72) (off := 71) hx hb dX2_resultWithCarry_1 (by rw [c_1]; decide) (by rw [c_1]; decide) (by rw [c_1]; rfl) (by decide) ?_
    refine lv_iload_n hx hb dX2_resultWithCarry_72 rfl (lv_at hl 2 rfl) ?_
    refine lv_iload_n hx hb dX2_resultWithCarry_73 rfl (lv_at hl 3 rfl) ?_
    refine lv_iadd hx hb dX2_resultWithCarry_74 ?_
    have hz := Option.some.inj hf
    subst hz
    exact gRetI hx hb hr hlocks hK hP hD hS rfl rfl dX2_resultWithCarry_75
  · replace hf := pI_f c_1 hf
    by_cases c_3 : x1 = 8
    · replace hf := pI_t c_3 hf
      refine lv_tableIn (tgt := 76) (off := 75) hx hb dX2_resultWithCarry_1 (by rw [c_3]; decide) (by rw [c_3]; decide) (by rw [c_3]; rfl) (by decide) ?_
      refine lv_iload_n hx hb dX2_resultWithCarry_76 rfl (lv_at hl 2 rfl) ?_
      refine lv_iload_n hx hb dX2_resultWithCarry_77 rfl (lv_at hl 3 rfl) ?_
      refine lv_iadd hx hb dX2_resultWithCarry_78 ?_
      refine lv_aload_n hx hb dX2_resultWithCarry_79 rfl (lv_at hl 0 rfl) ?_
      refine va_get (D := D) (ci := 1) (v := .ref a1) (C := RX2) (T := TX2) (N := 6) hx hb hts inX2_resultWithCarry_X2 hown hK hP 0 rfl rfl 0 (by decide) (hts (.fieldLink RX2 9 "BlockCache$Guest" "state" "[I") (by decide +kernel)) (fun _ h9 => h9) rfl dX2_resultWithCarry_80 ?_
      refine lv_bipush (v := 6) hx hb dX2_resultWithCarry_83 (by decide) ?_
      obtain ⟨h_2, hf⟩ := pIn_out hf
      refine va_iald hx hb hK hP 1 0 rfl rfl h_2 dX2_resultWithCarry_85 ?_
      refine lv_iadd hx hb dX2_resultWithCarry_86 ?_
      have hz := Option.some.inj hf
      subst hz
      exact gRetI hx hb hr hlocks hK hP hD hS rfl rfl dX2_resultWithCarry_87
    · replace hf := pI_f c_3 hf
      by_cases c_4 : x1 = 11
      · replace hf := pI_t c_4 hf
        refine lv_tableIn (tgt := 88) (off := 87) hx hb dX2_resultWithCarry_1 (by rw [c_4]; decide) (by rw [c_4]; decide) (by rw [c_4]; rfl) (by decide) ?_
        refine lv_iload_n hx hb dX2_resultWithCarry_88 rfl (lv_at hl 2 rfl) ?_
        refine lv_iload_n hx hb dX2_resultWithCarry_89 rfl (lv_at hl 3 rfl) ?_
        refine lv_iand hx hb dX2_resultWithCarry_90 ?_
        have hz := Option.some.inj hf
        subst hz
        exact gRetI hx hb hr hlocks hK hP hD hS rfl rfl dX2_resultWithCarry_91
      · replace hf := pI_f c_4 hf
        by_cases c_5 : x1 = 12
        · replace hf := pI_t c_5 hf
          refine lv_tableIn (tgt := 92) (off := 91) hx hb dX2_resultWithCarry_1 (by rw [c_5]; decide) (by rw [c_5]; decide) (by rw [c_5]; rfl) (by decide) ?_
          refine lv_iload_n hx hb dX2_resultWithCarry_92 rfl (lv_at hl 2 rfl) ?_
          refine lv_iload_n hx hb dX2_resultWithCarry_93 rfl (lv_at hl 3 rfl) ?_
          refine lv_ixor hx hb dX2_resultWithCarry_94 ?_
          have hz := Option.some.inj hf
          subst hz
          exact gRetI hx hb hr hlocks hK hP hD hS rfl rfl dX2_resultWithCarry_95
        · replace hf := pI_f c_5 hf
          by_cases c_6 : x1 = 13
          · replace hf := pI_t c_6 hf
            refine lv_tableIn (tgt := 96) (off := 95) hx hb dX2_resultWithCarry_1 (by rw [c_6]; decide) (by rw [c_6]; decide) (by rw [c_6]; rfl) (by decide) ?_
            refine lv_iload_n hx hb dX2_resultWithCarry_96 rfl (lv_at hl 2 rfl) ?_
            refine lv_iconst (v := 1) hx hb dX2_resultWithCarry_97 (by decide) ?_
            refine lv_ishl hx hb dX2_resultWithCarry_98 ?_
            have hz := Option.some.inj hf
            subst hz
            exact gRetI hx hb hr hlocks hK hP hD hS rfl rfl dX2_resultWithCarry_99
          · replace hf := pI_f c_6 hf
            by_cases c_7 : x1 = 14
            · replace hf := pI_t c_7 hf
              refine lv_tableIn (tgt := 100) (off := 99) hx hb dX2_resultWithCarry_1 (by rw [c_7]; decide) (by rw [c_7]; decide) (by rw [c_7]; rfl) (by decide) ?_
              refine lv_iload_n hx hb dX2_resultWithCarry_100 rfl (lv_at hl 2 rfl) ?_
              refine lv_iconst (v := 1) hx hb dX2_resultWithCarry_101 (by decide) ?_
              refine lv_ishr hx hb dX2_resultWithCarry_102 ?_
              refine lv_iload_n hx hb dX2_resultWithCarry_103 rfl (lv_at hl 2 rfl) ?_
              refine lv_iconst (v := 1) hx hb dX2_resultWithCarry_104 (by decide) ?_
              refine lv_iand hx hb dX2_resultWithCarry_105 ?_
              refine lv_bipush (v := 8) hx hb dX2_resultWithCarry_106 (by decide) ?_
              refine lv_ishl hx hb dX2_resultWithCarry_108 ?_
              refine lv_ior hx hb dX2_resultWithCarry_109 ?_
              have hz := Option.some.inj hf
              subst hz
              exact gRetI hx hb hr hlocks hK hP hD hS rfl rfl dX2_resultWithCarry_110
            · replace hf := pI_f c_7 hf
              by_cases c_9 : x1 = 15
              · replace hf := pI_t c_9 hf
                refine lv_tableIn (tgt := 111) (off := 110) hx hb dX2_resultWithCarry_1 (by rw [c_9]; decide) (by rw [c_9]; decide) (by rw [c_9]; rfl) (by decide) ?_
                refine lv_iload_n hx hb dX2_resultWithCarry_111 rfl (lv_at hl 2 rfl) ?_
                refine lv_iconst (v := 1) hx hb dX2_resultWithCarry_112 (by decide) ?_
                refine lv_ishl hx hb dX2_resultWithCarry_113 ?_
                refine lv_aload_n hx hb dX2_resultWithCarry_114 rfl (lv_at hl 0 rfl) ?_
                refine va_get (D := D) (ci := 1) (v := .ref a1) (C := RX2) (T := TX2) (N := 6) hx hb hts inX2_resultWithCarry_X2 hown hK hP 0 rfl rfl 0 (by decide) (hts (.fieldLink RX2 9 "BlockCache$Guest" "state" "[I") (by decide +kernel)) (fun _ h9 => h9) rfl dX2_resultWithCarry_115 ?_
                refine lv_bipush (v := 6) hx hb dX2_resultWithCarry_118 (by decide) ?_
                obtain ⟨h_8, hf⟩ := pIn_out hf
                refine va_iald hx hb hK hP 1 0 rfl rfl h_8 dX2_resultWithCarry_120 ?_
                refine lv_ior hx hb dX2_resultWithCarry_121 ?_
                have hz := Option.some.inj hf
                subst hz
                exact gRetI hx hb hr hlocks hK hP hD hS rfl rfl dX2_resultWithCarry_122
              · replace hf := pI_f c_9 hf
                by_cases c_11 : x1 = 16
                · replace hf := pI_t c_11 hf
                  refine lv_tableIn (tgt := 123) (off := 122) hx hb dX2_resultWithCarry_1 (by rw [c_11]; decide) (by rw [c_11]; decide) (by rw [c_11]; rfl) (by decide) ?_
                  refine lv_iload_n hx hb dX2_resultWithCarry_123 rfl (lv_at hl 2 rfl) ?_
                  refine lv_iconst (v := 1) hx hb dX2_resultWithCarry_124 (by decide) ?_
                  refine lv_ishr hx hb dX2_resultWithCarry_125 ?_
                  refine lv_aload_n hx hb dX2_resultWithCarry_126 rfl (lv_at hl 0 rfl) ?_
                  refine va_get (D := D) (ci := 1) (v := .ref a1) (C := RX2) (T := TX2) (N := 6) hx hb hts inX2_resultWithCarry_X2 hown hK hP 0 rfl rfl 0 (by decide) (hts (.fieldLink RX2 9 "BlockCache$Guest" "state" "[I") (by decide +kernel)) (fun _ h9 => h9) rfl dX2_resultWithCarry_127 ?_
                  refine lv_bipush (v := 6) hx hb dX2_resultWithCarry_130 (by decide) ?_
                  obtain ⟨h_10, hf⟩ := pIn_out hf
                  refine va_iald hx hb hK hP 1 0 rfl rfl h_10 dX2_resultWithCarry_132 ?_
                  refine lv_bipush (v := 7) hx hb dX2_resultWithCarry_133 (by decide) ?_
                  refine lv_ishl hx hb dX2_resultWithCarry_135 ?_
                  refine lv_ior hx hb dX2_resultWithCarry_136 ?_
                  refine lv_iload_n hx hb dX2_resultWithCarry_137 rfl (lv_at hl 2 rfl) ?_
                  refine lv_iconst (v := 1) hx hb dX2_resultWithCarry_138 (by decide) ?_
                  refine lv_iand hx hb dX2_resultWithCarry_139 ?_
                  refine lv_bipush (v := 8) hx hb dX2_resultWithCarry_140 (by decide) ?_
                  refine lv_ishl hx hb dX2_resultWithCarry_142 ?_
                  refine lv_ior hx hb dX2_resultWithCarry_143 ?_
                  have hz := Option.some.inj hf
                  subst hz
                  exact gRetI hx hb hr hlocks hK hP hD hS rfl rfl dX2_resultWithCarry_144
                · replace hf := pI_f c_11 hf
                  by_cases c_12 : x1 = 18
                  · replace hf := pI_t c_12 hf
                    refine lv_tableIn (tgt := 72) (off := 71) hx hb dX2_resultWithCarry_1 (by rw [c_12]; decide) (by rw [c_12]; decide) (by rw [c_12]; rfl) (by decide) ?_
                    refine lv_iload_n hx hb dX2_resultWithCarry_72 rfl (lv_at hl 2 rfl) ?_
                    refine lv_iload_n hx hb dX2_resultWithCarry_73 rfl (lv_at hl 3 rfl) ?_
                    refine lv_iadd hx hb dX2_resultWithCarry_74 ?_
                    have hz := Option.some.inj hf
                    subst hz
                    exact gRetI hx hb hr hlocks hK hP hD hS rfl rfl dX2_resultWithCarry_75
                  · replace hf := pI_f c_12 hf
                    by_cases c_13 : x1 = 20
                    · replace hf := pI_t c_13 hf
                      refine lv_tableIn (tgt := 92) (off := 91) hx hb dX2_resultWithCarry_1 (by rw [c_13]; decide) (by rw [c_13]; decide) (by rw [c_13]; rfl) (by decide) ?_
                      refine lv_iload_n hx hb dX2_resultWithCarry_92 rfl (lv_at hl 2 rfl) ?_
                      refine lv_iload_n hx hb dX2_resultWithCarry_93 rfl (lv_at hl 3 rfl) ?_
                      refine lv_ixor hx hb dX2_resultWithCarry_94 ?_
                      have hz := Option.some.inj hf
                      subst hz
                      exact gRetI hx hb hr hlocks hK hP hD hS rfl rfl dX2_resultWithCarry_95
                    · replace hf := pI_f c_13 hf
                      have hdef : W p l e rmX2_resultWithCarry s m args below meth c H locs 0 0 (MQ below (oI D vwCl [(cI, .int)] A z (wG a0 a1 a2 a3 a4 a5 cI u)) args s 0 0 A) (F0 m 145 ls []) := by
                        refine lv_iload_n hx hb dX2_resultWithCarry_145 rfl (lv_at hl 2 rfl) ?_
                        refine lv_iload_n hx hb dX2_resultWithCarry_146 rfl (lv_at hl 3 rfl) ?_
                        refine lv_isub hx hb dX2_resultWithCarry_147 ?_
                        have hz := Option.some.inj hf
                        subst hz
                        exact gRetI hx hb hr hlocks hK hP hD hS rfl rfl dX2_resultWithCarry_148
                      by_cases c_14 : x1 = 9
                      · refine lv_tableIn (tgt := 145) (off := 144) hx hb dX2_resultWithCarry_1 (by rw [c_14]; decide) (by rw [c_14]; decide) (by rw [c_14]; rfl) (by decide) ?_
                        exact hdef
                      by_cases c_15 : x1 = 10
                      · refine lv_tableIn (tgt := 145) (off := 144) hx hb dX2_resultWithCarry_1 (by rw [c_15]; decide) (by rw [c_15]; decide) (by rw [c_15]; rfl) (by decide) ?_
                        exact hdef
                      by_cases c_16 : x1 = 17
                      · refine lv_tableIn (tgt := 145) (off := 144) hx hb dX2_resultWithCarry_1 (by rw [c_16]; decide) (by rw [c_16]; decide) (by rw [c_16]; rfl) (by decide) ?_
                        exact hdef
                      by_cases c_17 : x1 = 19
                      · refine lv_tableIn (tgt := 145) (off := 144) hx hb dX2_resultWithCarry_1 (by rw [c_17]; decide) (by rw [c_17]; decide) (by rw [c_17]; rfl) (by decide) ?_
                        exact hdef
                      have nc_1 := lv_neT (k := 7) (a := 7) c_1 (by decide)
                      have nc_3 := lv_neT (k := 8) (a := 8) c_3 (by decide)
                      have nc_4 := lv_neT (k := 11) (a := 11) c_4 (by decide)
                      have nc_5 := lv_neT (k := 12) (a := 12) c_5 (by decide)
                      have nc_6 := lv_neT (k := 13) (a := 13) c_6 (by decide)
                      have nc_7 := lv_neT (k := 14) (a := 14) c_7 (by decide)
                      have nc_9 := lv_neT (k := 15) (a := 15) c_9 (by decide)
                      have nc_11 := lv_neT (k := 16) (a := 16) c_11 (by decide)
                      have nc_12 := lv_neT (k := 18) (a := 18) c_12 (by decide)
                      have nc_13 := lv_neT (k := 20) (a := 20) c_13 (by decide)
                      have nc_14 := lv_neT (k := 9) (a := 9) c_14 (by decide)
                      have nc_15 := lv_neT (k := 10) (a := 10) c_15 (by decide)
                      have nc_16 := lv_neT (k := 17) (a := 17) c_16 (by decide)
                      have nc_17 := lv_neT (k := 19) (a := 19) c_17 (by decide)
                      refine lv_tableOut (tgt := 145) hx hb dX2_resultWithCarry_1 (by omega) (by decide) ?_
                      exact hdef
theorem ctX2_resultWithCarry (l : Launch) (D : va_G) (cI : ClassId) (a0 a1 a2 a3 a4 a5 : Nat) (u : TG) (x1 : Int32) (x2 : Int32) (x3 : Int32) (z : Int32) (hz : fX2_resultWithCarry u x1 x2 x3 = some z) : CtI l yX2_resultWithCarry wsX2_resultWithCarry rmX2_resultWithCarry D vwCl [(cI, .int)] [.ref a0, .int x1, .int x2, .int x3] (wG a0 a1 a2 a3 a4 a5 cI u) z (wG a0 a1 a2 a3 a4 a5 cI u) :=
  ctI_of (cc := cX2_resultWithCarry) (maxL := 4) (ret := (some .int)) (by decide) rfl (Nat.le_of_ble_eq_true rfl) (fun p e s m below meth c A ls C hl hP hD hS => wkX2_resultWithCarry C z _ _ _ _ s.heap [] ls hz hP hD hS hl)
abbrev rmX2_makeFlags : Room := { frames := 0, cells := 0, slots := 0, locals := 0 }
theorem inX2_makeFlags_X2 : ∀ w ∈ wsX20, w ∈ wsX2_makeFlags := by decide +kernel
set_option maxRecDepth 100000 in
set_option maxHeartbeats 4000000 in
theorem wkX2_makeFlags_b18 {p : Program} {l : Launch} {e : Env} {s : State} {m : MethodId} {args : Array Value} {below : List Frame} {meth : Method} {c : Code} {D : va_G} {cI : ClassId} {A : Nat → Prop} {a0 a1 a2 a3 a4 a5 : Nat} (C : cxt p s m args meth c cX2_makeFlags none 2 RX2 wsX2_makeFlags D vwCl [(cI, .int)] A) : ∀ (z : TG) (u : TG) (x1 : Int32) (y0 : Int32) (y1 : Int32) (H : Heap) (locs : List Loc) (ls : Array Slot), fX2_makeFlags_b18 u x1 y0 y1 = some z → va_P D vwCl (wG a0 a1 a2 a3 a4 a5 cI u) H → va_D A (wG a0 a1 a2 a3 a4 a5 cI u) → va_S A s.heap H locs → lv_has ls 2 [(0, .ref a0), (1, .int x1)] → W p l e rmX2_makeFlags s m args below meth c H locs 0 0 (MQ below (oV D vwCl [(cI, .int)] A (wG a0 a1 a2 a3 a4 a5 cI z)) args s 0 0 A) (F0 m 18 ls [.int y0, .int y1, .ref a1]) := by
  have C0 := C
  obtain ⟨hx, hb, hr, hml, hown, hts, hlocks, hK, hA⟩ := C
  intro z u x1 y0 y1 H locs ls hf hP hD hS hl
  unfold fX2_makeFlags_b18 at hf
  obtain ⟨h_1, hf⟩ := pIn_out hf
  refine va_iast hx hb hK hP hD hS 1 0 rfl rfl h_1 dX2_makeFlags_18 (fun H locs hP hD hS => ?_)
  obtain ⟨u_2, eu_2, hf⟩ := pLet_out hf
  replace hP : va_P D vwCl (wG a0 a1 a2 a3 a4 a5 cI u_2) H := by rw [eu_2]; exact hP
  replace hD : va_D A (wG a0 a1 a2 a3 a4 a5 cI u_2) := by rw [eu_2]; exact hD
  refine lv_aload_n hx hb dX2_makeFlags_19 rfl (lv_at hl 0 rfl) ?_
  refine va_get (D := D) (ci := 1) (v := .ref a1) (C := RX2) (T := TX2) (N := 6) hx hb hts inX2_makeFlags_X2 hown hK hP 0 rfl rfl 0 (by decide) (hts (.fieldLink RX2 9 "BlockCache$Guest" "state" "[I") (by decide +kernel)) (fun _ h9 => h9) rfl dX2_makeFlags_20 ?_
  refine lv_bipush (v := 6) hx hb dX2_makeFlags_23 (by decide) ?_
  refine lv_iload_n hx hb dX2_makeFlags_25 rfl (lv_at hl 1 rfl) ?_
  refine lv_bipush (v := 8) hx hb dX2_makeFlags_26 (by decide) ?_
  refine lv_ishr hx hb dX2_makeFlags_28 ?_
  refine lv_iconst (v := 1) hx hb dX2_makeFlags_29 (by decide) ?_
  refine lv_iand hx hb dX2_makeFlags_30 ?_
  obtain ⟨h_3, hf⟩ := pIn_out hf
  refine va_iast hx hb hK hP hD hS 1 0 rfl rfl h_3 dX2_makeFlags_31 (fun H locs hP hD hS => ?_)
  obtain ⟨u_4, eu_4, hf⟩ := pLet_out hf
  replace hP : va_P D vwCl (wG a0 a1 a2 a3 a4 a5 cI u_4) H := by rw [eu_4]; exact hP
  replace hD : va_D A (wG a0 a1 a2 a3 a4 a5 cI u_4) := by rw [eu_4]; exact hD
  refine lv_aload_n hx hb dX2_makeFlags_32 rfl (lv_at hl 0 rfl) ?_
  refine va_get (D := D) (ci := 1) (v := .ref a1) (C := RX2) (T := TX2) (N := 6) hx hb hts inX2_makeFlags_X2 hown hK hP 0 rfl rfl 0 (by decide) (hts (.fieldLink RX2 9 "BlockCache$Guest" "state" "[I") (by decide +kernel)) (fun _ h9 => h9) rfl dX2_makeFlags_33 ?_
  refine lv_bipush (v := 7) hx hb dX2_makeFlags_36 (by decide) ?_
  refine lv_iload_n hx hb dX2_makeFlags_38 rfl (lv_at hl 1 rfl) ?_
  refine lv_bipush (v := 7) hx hb dX2_makeFlags_39 (by decide) ?_
  refine lv_ishr hx hb dX2_makeFlags_41 ?_
  refine lv_iconst (v := 1) hx hb dX2_makeFlags_42 (by decide) ?_
  refine lv_iand hx hb dX2_makeFlags_43 ?_
  obtain ⟨h_5, hf⟩ := pIn_out hf
  refine va_iast hx hb hK hP hD hS 1 0 rfl rfl h_5 dX2_makeFlags_44 (fun H locs hP hD hS => ?_)
  obtain ⟨u_6, eu_6, hf⟩ := pLet_out hf
  replace hP : va_P D vwCl (wG a0 a1 a2 a3 a4 a5 cI u_6) H := by rw [eu_6]; exact hP
  replace hD : va_D A (wG a0 a1 a2 a3 a4 a5 cI u_6) := by rw [eu_6]; exact hD
  have hz := Option.some.inj hf
  subst hz
  exact gRetV hx hb hr hlocks hK hP hD hS rfl dX2_makeFlags_45
set_option maxRecDepth 100000 in
set_option maxHeartbeats 4000000 in
theorem wkX2_makeFlags {p : Program} {l : Launch} {e : Env} {s : State} {m : MethodId} {args : Array Value} {below : List Frame} {meth : Method} {c : Code} {D : va_G} {cI : ClassId} {A : Nat → Prop} {a0 a1 a2 a3 a4 a5 : Nat} (C : cxt p s m args meth c cX2_makeFlags none 2 RX2 wsX2_makeFlags D vwCl [(cI, .int)] A) : ∀ (z : TG) (u : TG) (x1 : Int32) (H : Heap) (locs : List Loc) (ls : Array Slot), fX2_makeFlags u x1 = some z → va_P D vwCl (wG a0 a1 a2 a3 a4 a5 cI u) H → va_D A (wG a0 a1 a2 a3 a4 a5 cI u) → va_S A s.heap H locs → lv_has ls 2 [(0, .ref a0), (1, .int x1)] → W p l e rmX2_makeFlags s m args below meth c H locs 0 0 (MQ below (oV D vwCl [(cI, .int)] A (wG a0 a1 a2 a3 a4 a5 cI z)) args s 0 0 A) (F0 m 0 ls []) := by
  have C0 := C
  obtain ⟨hx, hb, hr, hml, hown, hts, hlocks, hK, hA⟩ := C
  intro z u x1 H locs ls hf hP hD hS hl
  unfold fX2_makeFlags at hf
  refine lv_aload_n hx hb dX2_makeFlags_0 rfl (lv_at hl 0 rfl) ?_
  refine va_get (D := D) (ci := 1) (v := .ref a1) (C := RX2) (T := TX2) (N := 6) hx hb hts inX2_makeFlags_X2 hown hK hP 0 rfl rfl 0 (by decide) (hts (.fieldLink RX2 9 "BlockCache$Guest" "state" "[I") (by decide +kernel)) (fun _ h9 => h9) rfl dX2_makeFlags_1 ?_
  refine lv_iconst (v := 5) hx hb dX2_makeFlags_4 (by decide) ?_
  refine lv_iload_n hx hb dX2_makeFlags_5 rfl (lv_at hl 1 rfl) ?_
  refine lv_sipush (v := 255) hx hb dX2_makeFlags_6 (by decide) ?_
  refine lv_iand hx hb dX2_makeFlags_9 ?_
  refine lv_if_ne (tgt := 17) hx hb dX2_makeFlags_10 (by decide) (fun c_1 => ?_) (fun c_1 => ?_)
  · replace hf := pI_f c_1 hf
    refine lv_iconst (v := 0) hx hb dX2_makeFlags_17 (by decide) ?_
    exact wkX2_makeFlags_b18 C0 _ _ _ _ _ H locs ls hf hP hD hS (lv_sub hl [0, 1] rfl)
  · replace hf := pI_t c_1 hf
    refine lv_iconst (v := 1) hx hb dX2_makeFlags_13 (by decide) ?_
    refine lv_goto (tgt := 18) hx hb dX2_makeFlags_14 (by decide) ?_
    exact wkX2_makeFlags_b18 C0 _ _ _ _ _ H locs ls hf hP hD hS (lv_sub hl [0, 1] rfl)
theorem ctX2_makeFlags (l : Launch) (D : va_G) (cI : ClassId) (a0 a1 a2 a3 a4 a5 : Nat) (u : TG) (x1 : Int32) (z : TG) (hz : fX2_makeFlags u x1 = some z) : CtV l yX2_makeFlags wsX2_makeFlags rmX2_makeFlags D vwCl [(cI, .int)] [.ref a0, .int x1] (wG a0 a1 a2 a3 a4 a5 cI u) (wG a0 a1 a2 a3 a4 a5 cI z) :=
  ctV_of (cc := cX2_makeFlags) (maxL := 2) (ret := none) (by decide) rfl (Nat.le_of_ble_eq_true rfl) (fun p e s m below meth c A ls C hl hP hD hS => wkX2_makeFlags C z _ _ s.heap [] ls hz hP hD hS hl)
abbrev rmX2_calculate : Room := { frames := 1, cells := 0, slots := 0, locals := 23 }
theorem inX2_calculate_X2 : ∀ w ∈ wsX20, w ∈ wsX2_calculate := by decide +kernel
set_option maxRecDepth 100000 in
set_option maxHeartbeats 4000000 in
theorem wkX2_calculate_b89 {p : Program} {l : Launch} {e : Env} {s : State} {m : MethodId} {args : Array Value} {below : List Frame} {meth : Method} {c : Code} {D : va_G} {cI : ClassId} {A : Nat → Prop} {a0 a1 a2 a3 a4 a5 : Nat} (C : cxt p s m args meth c cX2_calculate none 8 RX2 wsX2_calculate D vwCl [(cI, .int)] A) : ∀ (z : TG) (u : TG) (x3 : Int32) (x7 : Int32) (H : Heap) (locs : List Loc) (ls : Array Slot), fX2_calculate_b89 u x3 x7 = some z → va_P D vwCl (wG a0 a1 a2 a3 a4 a5 cI u) H → va_D A (wG a0 a1 a2 a3 a4 a5 cI u) → va_S A s.heap H locs → lv_has ls 8 [(0, .ref a0), (3, .int x3), (7, .int x7)] → W p l e rmX2_calculate s m args below meth c H locs 0 0 (MQ below (oV D vwCl [(cI, .int)] A (wG a0 a1 a2 a3 a4 a5 cI z)) args s 0 0 A) (F0 m 89 ls []) := by
  have C0 := C
  obtain ⟨hx, hb, hr, hml, hown, hts, hlocks, hK, hA⟩ := C
  intro z u x3 x7 H locs ls hf hP hD hS hl
  unfold fX2_calculate_b89 at hf
  refine lv_iload_n hx hb dX2_calculate_89 rfl (lv_at hl 1 rfl) ?_
  refine lv_if_ne (tgt := 99) hx hb dX2_calculate_90 (by decide) (fun c_1 => ?_) (fun c_1 => ?_)
  · replace hf := pI_f c_1 hf
    have hz := Option.some.inj hf
    subst hz
    exact gRetV hx hb hr hlocks hK hP hD hS rfl dX2_calculate_99
  · replace hf := pI_t c_1 hf
    refine lv_aload_n hx hb dX2_calculate_93 rfl (lv_at hl 0 rfl) ?_
    refine lv_iload hx hb dX2_calculate_94 (lv_at hl 2 rfl) ?_
    obtain ⟨z_2, hz_2, hf⟩ := pB_out hf
    refine gV (w' := (wG a0 a1 a2 a3 a4 a5 cI z_2)) (va_runV (As := [.int x7]) (rest := []) ⟨hx, hb, hml, hown, hts⟩ (ctX2_makeFlags l D cI a0 a1 a2 a3 a4 a5 u x7 z_2 hz_2 H.size) (cwV 1 hts gX2_calculate_X2_makeFlags rfl rfl rfl (by decide +kernel) ⟨Nat.le_of_ble_eq_true rfl, Nat.le_of_ble_eq_true rfl⟩) (gPreV (ci := 1) (C := RX2) (T := TX2) (N := 6) hP hK hD [0, 1, 2, 3, 4, 5] (by decide) rfl 0 rfl rfl) rfl rfl hl.1 rfl (lv_room (Nat.le_of_ble_eq_true rfl)) dX2_calculate_96 ⟨Nat.le_of_ble_eq_true rfl, Nat.le_of_ble_eq_true rfl⟩) hP hD hS hA [0, 1, 2, 3, 4, 5] [] [0, 1, 2, 3, 4, 5] rfl rfl (by decide) (by decide) rfl (by decide) (fun H locs hP hD hS => ?_)
    have hz := Option.some.inj hf
    subst hz
    exact gRetV hx hb hr hlocks hK hP hD hS rfl dX2_calculate_99
set_option maxRecDepth 100000 in
set_option maxHeartbeats 4000000 in
theorem wkX2_calculate_b56 {p : Program} {l : Launch} {e : Env} {s : State} {m : MethodId} {args : Array Value} {below : List Frame} {meth : Method} {c : Code} {D : va_G} {cI : ClassId} {A : Nat → Prop} {a0 a1 a2 a3 a4 a5 : Nat} (C : cxt p s m args meth c cX2_calculate none 8 RX2 wsX2_calculate D vwCl [(cI, .int)] A) : ∀ (z : TG) (u : TG) (x1 : Int32) (x2 : Int32) (x3 : Int32) (x4 : Int32) (x5 : Int32) (y0 : Int32) (H : Heap) (locs : List Loc) (ls : Array Slot), fX2_calculate_b56 u x1 x2 x3 x4 x5 y0 = some z → va_P D vwCl (wG a0 a1 a2 a3 a4 a5 cI u) H → va_D A (wG a0 a1 a2 a3 a4 a5 cI u) → va_S A s.heap H locs → lv_has ls 8 [(0, .ref a0), (1, .int x1), (2, .int x2), (3, .int x3), (4, .int x4), (5, .int x5)] → W p l e rmX2_calculate s m args below meth c H locs 0 0 (MQ below (oV D vwCl [(cI, .int)] A (wG a0 a1 a2 a3 a4 a5 cI z)) args s 0 0 A) (F0 m 56 ls [.int y0]) := by
  have C0 := C
  obtain ⟨hx, hb, hr, hml, hown, hts, hlocks, hK, hA⟩ := C
  intro z u x1 x2 x3 x4 x5 y0 H locs ls hf hP hD hS hl
  unfold fX2_calculate_b56 at hf
  refine lv_istore (lv' := [(6, .int y0), (0, .ref a0), (1, .int x1), (2, .int x2), (3, .int x3), (4, .int x4), (5, .int x5)]) hx hb dX2_calculate_56 hl (by decide) rfl (fun ls hl => ?_)
  refine lv_aload_n hx hb dX2_calculate_58 rfl (lv_at hl 1 rfl) ?_
  refine lv_iload_n hx hb dX2_calculate_59 rfl (lv_at hl 2 rfl) ?_
  refine lv_iload hx hb dX2_calculate_60 (lv_at hl 6 rfl) ?_
  refine lv_iload hx hb dX2_calculate_62 (lv_at hl 0 rfl) ?_
  obtain ⟨z_1, hz_1, hf⟩ := pB_out hf
  refine gI (w' := (wG a0 a1 a2 a3 a4 a5 cI u)) (va_runV (As := [.int x1, .int x5, .int y0]) (rest := []) ⟨hx, hb, hml, hown, hts⟩ (ctX2_resultWithCarry l D cI a0 a1 a2 a3 a4 a5 u x1 x5 y0 z_1 hz_1 H.size) (cwV 3 hts gX2_calculate_X2_resultWithCarry rfl rfl rfl (by decide +kernel) ⟨Nat.le_of_ble_eq_true rfl, Nat.le_of_ble_eq_true rfl⟩) (gPreV (ci := 1) (C := RX2) (T := TX2) (N := 6) hP hK hD [0, 1, 2, 3, 4, 5] (by decide) rfl 0 rfl rfl) rfl rfl hl.1 rfl (lv_room (Nat.le_of_ble_eq_true rfl)) dX2_calculate_64 ⟨Nat.le_of_ble_eq_true rfl, Nat.le_of_ble_eq_true rfl⟩) hP hD hS hA [0, 1, 2, 3, 4, 5] [] [0, 1, 2, 3, 4, 5] rfl rfl (by decide) (by decide) rfl (by decide) (fun H locs hP hD hS => ?_)
  refine lv_istore (lv' := [(7, .int z_1), (6, .int y0), (0, .ref a0), (1, .int x1), (2, .int x2), (3, .int x3), (4, .int x4), (5, .int x5)]) hx hb dX2_calculate_67 hl (by decide) rfl (fun ls hl => ?_)
  refine lv_iload hx hb dX2_calculate_69 (lv_at hl 6 rfl) ?_
  refine lv_if_ne (tgt := 89) hx hb dX2_calculate_71 (by decide) (fun c_2 => ?_) (fun c_2 => ?_)
  · replace hf := pI_f c_2 hf
    exact wkX2_calculate_b89 C0 _ _ _ _ H locs ls hf hP hD hS (lv_sub hl [2, 5, 0] rfl)
  · replace hf := pI_t c_2 hf
    refine lv_aload_n hx hb dX2_calculate_74 rfl (lv_at hl 2 rfl) ?_
    refine va_get (D := D) (ci := 1) (v := .ref a1) (C := RX2) (T := TX2) (N := 6) hx hb hts inX2_calculate_X2 hown hK hP 0 rfl rfl 0 (by decide) (hts (.fieldLink RX2 9 "BlockCache$Guest" "state" "[I") (by decide +kernel)) (fun _ h9 => h9) rfl dX2_calculate_75 ?_
    refine lv_iload_n hx hb dX2_calculate_78 rfl (lv_at hl 4 rfl) ?_
    obtain ⟨z_3, hz_3, hf⟩ := pLet_out hf
    refine gI0 (va_runS (As := [.int x2]) (rest := [.ref a1]) ⟨hx, hb, hml, hown, hts⟩ (ctX1_d l D cI x2 z_3 hz_3.symm H.size) (va_cwS 1 hts gX2_calculate_X1_d rfl rfl rfl (by decide +kernel) ⟨Nat.le_of_ble_eq_true rfl, Nat.le_of_ble_eq_true rfl⟩) (gPreS hP hK hD [] (by decide) rfl) rfl rfl hl.1 rfl (lv_room (Nat.le_of_ble_eq_true rfl)) dX2_calculate_79 ⟨Nat.le_of_ble_eq_true rfl, Nat.le_of_ble_eq_true rfl⟩) hP hD hS hA (fun H locs hP hS => ?_)
    refine lv_iload hx hb dX2_calculate_82 (lv_at hl 0 rfl) ?_
    refine lv_sipush (v := 255) hx hb dX2_calculate_84 (by decide) ?_
    refine lv_iand hx hb dX2_calculate_87 ?_
    obtain ⟨h_4, hf⟩ := pIn_out hf
    refine va_iast hx hb hK hP hD hS 1 0 rfl rfl h_4 dX2_calculate_88 (fun H locs hP hD hS => ?_)
    obtain ⟨u_5, eu_5, hf⟩ := pLet_out hf
    replace hP : va_P D vwCl (wG a0 a1 a2 a3 a4 a5 cI u_5) H := by rw [eu_5]; exact hP
    replace hD : va_D A (wG a0 a1 a2 a3 a4 a5 cI u_5) := by rw [eu_5]; exact hD
    exact wkX2_calculate_b89 C0 _ _ _ _ H locs ls hf hP hD hS (lv_sub hl [2, 5, 0] rfl)
set_option maxRecDepth 100000 in
set_option maxHeartbeats 4000000 in
theorem wkX2_calculate_b21 {p : Program} {l : Launch} {e : Env} {s : State} {m : MethodId} {args : Array Value} {below : List Frame} {meth : Method} {c : Code} {D : va_G} {cI : ClassId} {A : Nat → Prop} {a0 a1 a2 a3 a4 a5 : Nat} (C : cxt p s m args meth c cX2_calculate none 8 RX2 wsX2_calculate D vwCl [(cI, .int)] A) : ∀ (z : TG) (u : TG) (x1 : Int32) (x2 : Int32) (x3 : Int32) (x4 : Int32) (H : Heap) (locs : List Loc) (ls : Array Slot), fX2_calculate_b21 u x1 x2 x3 x4 = some z → va_P D vwCl (wG a0 a1 a2 a3 a4 a5 cI u) H → va_D A (wG a0 a1 a2 a3 a4 a5 cI u) → va_S A s.heap H locs → lv_has ls 8 [(0, .ref a0), (1, .int x1), (2, .int x2), (3, .int x3), (4, .int x4)] → W p l e rmX2_calculate s m args below meth c H locs 0 0 (MQ below (oV D vwCl [(cI, .int)] A (wG a0 a1 a2 a3 a4 a5 cI z)) args s 0 0 A) (F0 m 21 ls []) := by
  have C0 := C
  obtain ⟨hx, hb, hr, hml, hown, hts, hlocks, hK, hA⟩ := C
  intro z u x1 x2 x3 x4 H locs ls hf hP hD hS hl
  unfold fX2_calculate_b21 at hf
  refine lv_aload_n hx hb dX2_calculate_21 rfl (lv_at hl 0 rfl) ?_
  refine va_get (D := D) (ci := 1) (v := .ref a1) (C := RX2) (T := TX2) (N := 6) hx hb hts inX2_calculate_X2 hown hK hP 0 rfl rfl 0 (by decide) (hts (.fieldLink RX2 9 "BlockCache$Guest" "state" "[I") (by decide +kernel)) (fun _ h9 => h9) rfl dX2_calculate_22 ?_
  refine lv_iload_n hx hb dX2_calculate_25 rfl (lv_at hl 2 rfl) ?_
  obtain ⟨z_1, hz_1, hf⟩ := pLet_out hf
  refine gI0 (va_runS (As := [.int x2]) (rest := [.ref a1]) ⟨hx, hb, hml, hown, hts⟩ (ctX1_d l D cI x2 z_1 hz_1.symm H.size) (va_cwS 1 hts gX2_calculate_X1_d rfl rfl rfl (by decide +kernel) ⟨Nat.le_of_ble_eq_true rfl, Nat.le_of_ble_eq_true rfl⟩) (gPreS hP hK hD [] (by decide) rfl) rfl rfl hl.1 rfl (lv_room (Nat.le_of_ble_eq_true rfl)) dX2_calculate_26 ⟨Nat.le_of_ble_eq_true rfl, Nat.le_of_ble_eq_true rfl⟩) hP hD hS hA (fun H locs hP hS => ?_)
  obtain ⟨h_2, hf⟩ := pIn_out hf
  refine va_iald hx hb hK hP 1 0 rfl rfl h_2 dX2_calculate_29 ?_
  obtain ⟨x_3, ex_3, hf⟩ := pLet_out hf
  refine gTop ex_3 ?_
  refine lv_istore (lv' := [(5, .int x_3), (0, .ref a0), (1, .int x1), (2, .int x2), (3, .int x3), (4, .int x4)]) hx hb dX2_calculate_30 hl (by decide) rfl (fun ls hl => ?_)
  refine lv_iload_n hx hb dX2_calculate_32 rfl (lv_at hl 2 rfl) ?_
  obtain ⟨z_4, hz_4, hf⟩ := pLet_out hf
  refine gI0 (va_runS (As := [.int x1]) (rest := []) ⟨hx, hb, hml, hown, hts⟩ (ctX1_bytes l D cI x1 z_4 hz_4.symm H.size) (va_cwS 1 hts gX2_calculate_X1_bytes rfl rfl rfl (by decide +kernel) ⟨Nat.le_of_ble_eq_true rfl, Nat.le_of_ble_eq_true rfl⟩) (gPreS hP hK hD [] (by decide) rfl) rfl rfl hl.1 rfl (lv_room (Nat.le_of_ble_eq_true rfl)) dX2_calculate_33 ⟨Nat.le_of_ble_eq_true rfl, Nat.le_of_ble_eq_true rfl⟩) hP hD hS hA (fun H locs hP hS => ?_)
  refine lv_iconst (v := 2) hx hb dX2_calculate_36 (by decide) ?_
  refine lv_icmp_ne (tgt := 47) hx hb dX2_calculate_37 (by decide) (fun c_5 => ?_) (fun c_5 => ?_)
  · replace hf := pI_f c_5 hf
    refine lv_aload_n hx hb dX2_calculate_47 rfl (lv_at hl 1 rfl) ?_
    refine va_get (D := D) (ci := 1) (v := .ref a1) (C := RX2) (T := TX2) (N := 6) hx hb hts inX2_calculate_X2 hown hK hP 0 rfl rfl 0 (by decide) (hts (.fieldLink RX2 9 "BlockCache$Guest" "state" "[I") (by decide +kernel)) (fun _ h9 => h9) rfl dX2_calculate_48 ?_
    refine lv_iload_n hx hb dX2_calculate_51 rfl (lv_at hl 3 rfl) ?_
    obtain ⟨z_6, hz_6, hf⟩ := pLet_out hf
    refine gI0 (va_runS (As := [.int x2]) (rest := [.ref a1]) ⟨hx, hb, hml, hown, hts⟩ (ctX1_s l D cI x2 z_6 hz_6.symm H.size) (va_cwS 1 hts gX2_calculate_X1_s rfl rfl rfl (by decide +kernel) ⟨Nat.le_of_ble_eq_true rfl, Nat.le_of_ble_eq_true rfl⟩) (gPreS hP hK hD [] (by decide) rfl) rfl rfl hl.1 rfl (lv_room (Nat.le_of_ble_eq_true rfl)) dX2_calculate_52 ⟨Nat.le_of_ble_eq_true rfl, Nat.le_of_ble_eq_true rfl⟩) hP hD hS hA (fun H locs hP hS => ?_)
    obtain ⟨h_7, hf⟩ := pIn_out hf
    refine va_iald hx hb hK hP 1 0 rfl rfl h_7 dX2_calculate_55 ?_
    exact wkX2_calculate_b56 C0 _ _ _ _ _ _ _ _ H locs ls hf hP hD hS (lv_sub hl [1, 2, 3, 4, 5, 0] rfl)
  · replace hf := pI_t c_5 hf
    refine lv_iload_n hx hb dX2_calculate_40 rfl (lv_at hl 3 rfl) ?_
    obtain ⟨z_8, hz_8, hf⟩ := pLet_out hf
    refine gI0 (va_runS (As := [.int x2]) (rest := []) ⟨hx, hb, hml, hown, hts⟩ (ctX1_n l D cI x2 z_8 hz_8.symm H.size) (va_cwS 1 hts gX2_calculate_X1_n rfl rfl rfl (by decide +kernel) ⟨Nat.le_of_ble_eq_true rfl, Nat.le_of_ble_eq_true rfl⟩) (gPreS hP hK hD [] (by decide) rfl) rfl rfl hl.1 rfl (lv_room (Nat.le_of_ble_eq_true rfl)) dX2_calculate_41 ⟨Nat.le_of_ble_eq_true rfl, Nat.le_of_ble_eq_true rfl⟩) hP hD hS hA (fun H locs hP hS => ?_)
    refine lv_goto (tgt := 56) hx hb dX2_calculate_44 (by decide) ?_
    exact wkX2_calculate_b56 C0 _ _ _ _ _ _ _ _ H locs ls hf hP hD hS (lv_sub hl [1, 2, 3, 4, 5, 0] rfl)
set_option maxRecDepth 100000 in
set_option maxHeartbeats 4000000 in
theorem wkX2_calculate {p : Program} {l : Launch} {e : Env} {s : State} {m : MethodId} {args : Array Value} {below : List Frame} {meth : Method} {c : Code} {D : va_G} {cI : ClassId} {A : Nat → Prop} {a0 a1 a2 a3 a4 a5 : Nat} (C : cxt p s m args meth c cX2_calculate none 8 RX2 wsX2_calculate D vwCl [(cI, .int)] A) : ∀ (z : TG) (u : TG) (x1 : Int32) (x2 : Int32) (H : Heap) (locs : List Loc) (ls : Array Slot), fX2_calculate u x1 x2 = some z → va_P D vwCl (wG a0 a1 a2 a3 a4 a5 cI u) H → va_D A (wG a0 a1 a2 a3 a4 a5 cI u) → va_S A s.heap H locs → lv_has ls 8 [(0, .ref a0), (1, .int x1), (2, .int x2)] → W p l e rmX2_calculate s m args below meth c H locs 0 0 (MQ below (oV D vwCl [(cI, .int)] A (wG a0 a1 a2 a3 a4 a5 cI z)) args s 0 0 A) (F0 m 0 ls []) := by
  have C0 := C
  obtain ⟨hx, hb, hr, hml, hown, hts, hlocks, hK, hA⟩ := C
  intro z u x1 x2 H locs ls hf hP hD hS hl
  unfold fX2_calculate at hf
  refine lv_iload_n hx hb dX2_calculate_0 rfl (lv_at hl 2 rfl) ?_
  obtain ⟨z_1, hz_1, hf⟩ := pLet_out hf
  refine gI0 (va_runS (As := [.int x2]) (rest := []) ⟨hx, hb, hml, hown, hts⟩ (ctX1_isDead l D cI x2 z_1 hz_1.symm H.size) (va_cwS 1 hts gX2_calculate_X1_isDead rfl rfl rfl (by decide +kernel) ⟨Nat.le_of_ble_eq_true rfl, Nat.le_of_ble_eq_true rfl⟩) (gPreS hP hK hD [] (by decide) rfl) rfl rfl hl.1 rfl (lv_room (Nat.le_of_ble_eq_true rfl)) dX2_calculate_1 ⟨Nat.le_of_ble_eq_true rfl, Nat.le_of_ble_eq_true rfl⟩) hP hD hS hA (fun H locs hP hS => ?_)
  refine lv_istore_n (lv' := [(3, .int z_1), (0, .ref a0), (1, .int x1), (2, .int x2)]) hx hb dX2_calculate_4 rfl hl (by decide) rfl (fun ls hl => ?_)
  refine lv_iload_n hx hb dX2_calculate_5 rfl (lv_at hl 2 rfl) ?_
  obtain ⟨z_2, hz_2, hf⟩ := pLet_out hf
  refine gI0 (va_runS (As := [.int x1]) (rest := []) ⟨hx, hb, hml, hown, hts⟩ (ctX1_onlyCompares l D cI x1 z_2 hz_2.symm H.size) (va_cwS 1 hts gX2_calculate_X1_onlyCompares rfl rfl rfl (by decide +kernel) ⟨Nat.le_of_ble_eq_true rfl, Nat.le_of_ble_eq_true rfl⟩) (gPreS hP hK hD [] (by decide) rfl) rfl rfl hl.1 rfl (lv_room (Nat.le_of_ble_eq_true rfl)) dX2_calculate_6 ⟨Nat.le_of_ble_eq_true rfl, Nat.le_of_ble_eq_true rfl⟩) hP hD hS hA (fun H locs hP hS => ?_)
  refine lv_istore (lv' := [(4, .int z_2), (3, .int z_1), (0, .ref a0), (1, .int x1), (2, .int x2)]) hx hb dX2_calculate_9 hl (by decide) rfl (fun ls hl => ?_)
  refine lv_iload_n hx hb dX2_calculate_11 rfl (lv_at hl 1 rfl) ?_
  refine lv_if_eq (tgt := 21) hx hb dX2_calculate_12 (by decide) (fun c_3 => ?_) (fun c_3 => ?_)
  · replace hf := pI_t c_3 hf
    exact wkX2_calculate_b21 C0 _ _ _ _ _ _ H locs ls hf hP hD hS (lv_sub hl [2, 3, 4, 1, 0] rfl)
  · replace hf := pI_f c_3 hf
    refine lv_iload hx hb dX2_calculate_15 (lv_at hl 0 rfl) ?_
    refine lv_if_eq (tgt := 21) hx hb dX2_calculate_17 (by decide) (fun c_4 => ?_) (fun c_4 => ?_)
    · replace hf := pI_t c_4 hf
      exact wkX2_calculate_b21 C0 _ _ _ _ _ _ H locs ls hf hP hD hS (lv_sub hl [2, 3, 4, 1, 0] rfl)
    · replace hf := pI_f c_4 hf
      have hz := Option.some.inj hf
      subst hz
      exact gRetV hx hb hr hlocks hK hP hD hS rfl dX2_calculate_20
theorem ctX2_calculate (l : Launch) (D : va_G) (cI : ClassId) (a0 a1 a2 a3 a4 a5 : Nat) (u : TG) (x1 : Int32) (x2 : Int32) (z : TG) (hz : fX2_calculate u x1 x2 = some z) : CtV l yX2_calculate wsX2_calculate rmX2_calculate D vwCl [(cI, .int)] [.ref a0, .int x1, .int x2] (wG a0 a1 a2 a3 a4 a5 cI u) (wG a0 a1 a2 a3 a4 a5 cI z) :=
  ctV_of (cc := cX2_calculate) (maxL := 8) (ret := none) (by decide) rfl (Nat.le_of_ble_eq_true rfl) (fun p e s m below meth c A ls C hl hP hD hS => wkX2_calculate C z _ _ _ s.heap [] ls hz hP hD hS hl)
abbrev rmX2_jumpIf : Room := { frames := 0, cells := 0, slots := 0, locals := 0 }
theorem inX2_jumpIf_X2 : ∀ w ∈ wsX20, w ∈ wsX2_jumpIf := by decide +kernel
set_option maxRecDepth 100000 in
set_option maxHeartbeats 4000000 in
theorem wkX2_jumpIf_b21 {p : Program} {l : Launch} {e : Env} {s : State} {m : MethodId} {args : Array Value} {below : List Frame} {meth : Method} {c : Code} {D : va_G} {cI : ClassId} {A : Nat → Prop} {a0 a1 a2 a3 a4 a5 : Nat} (C : cxt p s m args meth c cX2_jumpIf none 4 RX2 wsX2_jumpIf D vwCl [(cI, .int)] A) : ∀ (z : TG) (u : TG) (x1 : Int32) (x2 : Int32) (y0 : Int32) (H : Heap) (locs : List Loc) (ls : Array Slot), fX2_jumpIf_b21 u x1 x2 y0 = some z → va_P D vwCl (wG a0 a1 a2 a3 a4 a5 cI u) H → va_D A (wG a0 a1 a2 a3 a4 a5 cI u) → va_S A s.heap H locs → lv_has ls 4 [(0, .ref a0), (1, .int x1), (2, .int x2)] → W p l e rmX2_jumpIf s m args below meth c H locs 0 0 (MQ below (oV D vwCl [(cI, .int)] A (wG a0 a1 a2 a3 a4 a5 cI z)) args s 0 0 A) (F0 m 21 ls [.int y0]) := by
  have C0 := C
  obtain ⟨hx, hb, hr, hml, hown, hts, hlocks, hK, hA⟩ := C
  intro z u x1 x2 y0 H locs ls hf hP hD hS hl
  unfold fX2_jumpIf_b21 at hf
  refine lv_istore_n (lv' := [(3, .int y0), (0, .ref a0), (1, .int x1), (2, .int x2)]) hx hb dX2_jumpIf_21 rfl hl (by decide) rfl (fun ls hl => ?_)
  refine lv_aload_n hx hb dX2_jumpIf_22 rfl (lv_at hl 1 rfl) ?_
  refine va_get (D := D) (ci := 1) (v := .ref a1) (C := RX2) (T := TX2) (N := 6) hx hb hts inX2_jumpIf_X2 hown hK hP 0 rfl rfl 0 (by decide) (hts (.fieldLink RX2 9 "BlockCache$Guest" "state" "[I") (by decide +kernel)) (fun _ h9 => h9) rfl dX2_jumpIf_23 ?_
  refine lv_iload_n hx hb dX2_jumpIf_26 rfl (lv_at hl 0 rfl) ?_
  obtain ⟨h_1, hf⟩ := pIn_out hf
  refine va_iald hx hb hK hP 1 0 rfl rfl h_1 dX2_jumpIf_27 ?_
  refine lv_iload_n hx hb dX2_jumpIf_28 rfl (lv_at hl 2 rfl) ?_
  refine lv_iconst (v := 1) hx hb dX2_jumpIf_29 (by decide) ?_
  refine lv_iand hx hb dX2_jumpIf_30 ?_
  refine lv_icmp_ne (tgt := 42) hx hb dX2_jumpIf_31 (by decide) (fun c_2 => ?_) (fun c_2 => ?_)
  · replace hf := pI_f c_2 hf
    have hz := Option.some.inj hf
    subst hz
    exact gRetV hx hb hr hlocks hK hP hD hS rfl dX2_jumpIf_42
  · replace hf := pI_t c_2 hf
    refine lv_aload_n hx hb dX2_jumpIf_34 rfl (lv_at hl 1 rfl) ?_
    refine va_get (D := D) (ci := 1) (v := .ref a1) (C := RX2) (T := TX2) (N := 6) hx hb hts inX2_jumpIf_X2 hown hK hP 0 rfl rfl 0 (by decide) (hts (.fieldLink RX2 9 "BlockCache$Guest" "state" "[I") (by decide +kernel)) (fun _ h9 => h9) rfl dX2_jumpIf_35 ?_
    refine lv_bipush (v := 9) hx hb dX2_jumpIf_38 (by decide) ?_
    refine lv_iload_n hx hb dX2_jumpIf_40 rfl (lv_at hl 3 rfl) ?_
    obtain ⟨h_3, hf⟩ := pIn_out hf
    refine va_iast hx hb hK hP hD hS 1 0 rfl rfl h_3 dX2_jumpIf_41 (fun H locs hP hD hS => ?_)
    obtain ⟨u_4, eu_4, hf⟩ := pLet_out hf
    replace hP : va_P D vwCl (wG a0 a1 a2 a3 a4 a5 cI u_4) H := by rw [eu_4]; exact hP
    replace hD : va_D A (wG a0 a1 a2 a3 a4 a5 cI u_4) := by rw [eu_4]; exact hD
    have hz := Option.some.inj hf
    subst hz
    exact gRetV hx hb hr hlocks hK hP hD hS rfl dX2_jumpIf_42
set_option maxRecDepth 100000 in
set_option maxHeartbeats 4000000 in
theorem wkX2_jumpIf {p : Program} {l : Launch} {e : Env} {s : State} {m : MethodId} {args : Array Value} {below : List Frame} {meth : Method} {c : Code} {D : va_G} {cI : ClassId} {A : Nat → Prop} {a0 a1 a2 a3 a4 a5 : Nat} (C : cxt p s m args meth c cX2_jumpIf none 4 RX2 wsX2_jumpIf D vwCl [(cI, .int)] A) : ∀ (z : TG) (u : TG) (x1 : Int32) (x2 : Int32) (H : Heap) (locs : List Loc) (ls : Array Slot), fX2_jumpIf u x1 x2 = some z → va_P D vwCl (wG a0 a1 a2 a3 a4 a5 cI u) H → va_D A (wG a0 a1 a2 a3 a4 a5 cI u) → va_S A s.heap H locs → lv_has ls 4 [(0, .ref a0), (1, .int x1), (2, .int x2)] → W p l e rmX2_jumpIf s m args below meth c H locs 0 0 (MQ below (oV D vwCl [(cI, .int)] A (wG a0 a1 a2 a3 a4 a5 cI z)) args s 0 0 A) (F0 m 0 ls []) := by
  have C0 := C
  obtain ⟨hx, hb, hr, hml, hown, hts, hlocks, hK, hA⟩ := C
  intro z u x1 x2 H locs ls hf hP hD hS hl
  unfold fX2_jumpIf at hf
  refine lv_iload_n hx hb dX2_jumpIf_0 rfl (lv_at hl 1 rfl) ?_
  refine lv_iconst (v := 2) hx hb dX2_jumpIf_1 (by decide) ?_
  refine lv_icmp_gt (tgt := 9) hx hb dX2_jumpIf_2 (by decide) (fun c_1 => ?_) (fun c_1 => ?_)
  · replace hf := pI_t c_1 hf
    refine lv_iload_n hx hb dX2_jumpIf_9 rfl (lv_at hl 1 rfl) ?_
    refine lv_iconst (v := 4) hx hb dX2_jumpIf_10 (by decide) ?_
    refine lv_icmp_gt (tgt := 19) hx hb dX2_jumpIf_11 (by decide) (fun c_2 => ?_) (fun c_2 => ?_)
    · replace hf := pI_t c_2 hf
      refine lv_bipush (v := 7) hx hb dX2_jumpIf_19 (by decide) ?_
      exact wkX2_jumpIf_b21 C0 _ _ _ _ _ H locs ls hf hP hD hS (lv_sub hl [0, 1, 2] rfl)
    · replace hf := pI_f c_2 hf
      refine lv_bipush (v := 6) hx hb dX2_jumpIf_14 (by decide) ?_
      refine lv_goto (tgt := 21) hx hb dX2_jumpIf_16 (by decide) ?_
      exact wkX2_jumpIf_b21 C0 _ _ _ _ _ H locs ls hf hP hD hS (lv_sub hl [0, 1, 2] rfl)
  · replace hf := pI_f c_1 hf
    refine lv_iconst (v := 5) hx hb dX2_jumpIf_5 (by decide) ?_
    refine lv_goto (tgt := 21) hx hb dX2_jumpIf_6 (by decide) ?_
    exact wkX2_jumpIf_b21 C0 _ _ _ _ _ H locs ls hf hP hD hS (lv_sub hl [0, 1, 2] rfl)
theorem ctX2_jumpIf (l : Launch) (D : va_G) (cI : ClassId) (a0 a1 a2 a3 a4 a5 : Nat) (u : TG) (x1 : Int32) (x2 : Int32) (z : TG) (hz : fX2_jumpIf u x1 x2 = some z) : CtV l yX2_jumpIf wsX2_jumpIf rmX2_jumpIf D vwCl [(cI, .int)] [.ref a0, .int x1, .int x2] (wG a0 a1 a2 a3 a4 a5 cI u) (wG a0 a1 a2 a3 a4 a5 cI z) :=
  ctV_of (cc := cX2_jumpIf) (maxL := 4) (ret := none) (by decide) rfl (Nat.le_of_ble_eq_true rfl) (fun p e s m below meth c A ls C hl hP hD hS => wkX2_jumpIf C z _ _ _ s.heap [] ls hz hP hD hS hl)
abbrev rmX2_pop : Room := { frames := 0, cells := 0, slots := 0, locals := 0 }
theorem inX2_pop_X2 : ∀ w ∈ wsX20, w ∈ wsX2_pop := by decide +kernel
set_option maxRecDepth 100000 in
set_option maxHeartbeats 4000000 in
theorem wkX2_pop {p : Program} {l : Launch} {e : Env} {s : State} {m : MethodId} {args : Array Value} {below : List Frame} {meth : Method} {c : Code} {D : va_G} {cI : ClassId} {A : Nat → Prop} {a0 a1 a2 a3 a4 a5 : Nat} (C : cxt p s m args meth c cX2_pop (some .int) 2 RX2 wsX2_pop D vwCl [(cI, .int)] A) : ∀ (z : Int32 × TG) (u : TG) (H : Heap) (locs : List Loc) (ls : Array Slot), fX2_pop u = some z → va_P D vwCl (wG a0 a1 a2 a3 a4 a5 cI u) H → va_D A (wG a0 a1 a2 a3 a4 a5 cI u) → va_S A s.heap H locs → lv_has ls 2 [(0, .ref a0)] → W p l e rmX2_pop s m args below meth c H locs 0 0 (MQ below (oI D vwCl [(cI, .int)] A z.1 (wG a0 a1 a2 a3 a4 a5 cI z.2)) args s 0 0 A) (F0 m 0 ls []) := by
  have C0 := C
  obtain ⟨hx, hb, hr, hml, hown, hts, hlocks, hK, hA⟩ := C
  intro z u H locs ls hf hP hD hS hl
  unfold fX2_pop at hf
  refine lv_aload_n hx hb dX2_pop_0 rfl (lv_at hl 0 rfl) ?_
  refine va_get (D := D) (ci := 1) (v := .ref a2) (C := RX2) (T := TX2) (N := 6) hx hb hts inX2_pop_X2 hown hK hP 0 rfl rfl 1 (by decide) (hts (.fieldLink RX2 15 "BlockCache$Guest" "memory" "[I") (by decide +kernel)) (fun _ h9 => h9) rfl dX2_pop_1 ?_
  refine lv_aload_n hx hb dX2_pop_4 rfl (lv_at hl 0 rfl) ?_
  refine va_get (D := D) (ci := 1) (v := .ref a1) (C := RX2) (T := TX2) (N := 6) hx hb hts inX2_pop_X2 hown hK hP 0 rfl rfl 0 (by decide) (hts (.fieldLink RX2 9 "BlockCache$Guest" "state" "[I") (by decide +kernel)) (fun _ h9 => h9) rfl dX2_pop_5 ?_
  refine lv_iconst (v := 4) hx hb dX2_pop_8 (by decide) ?_
  obtain ⟨h_1, hf⟩ := pIn_out hf
  refine va_iald hx hb hK hP 1 0 rfl rfl h_1 dX2_pop_9 ?_
  obtain ⟨h_2, hf⟩ := pIn_out hf
  refine va_iald hx hb hK hP 2 0 rfl rfl h_2 dX2_pop_10 ?_
  obtain ⟨x_3, ex_3, hf⟩ := pLet_out hf
  refine gTop ex_3 ?_
  refine lv_istore_n (lv' := [(1, .int x_3), (0, .ref a0)]) hx hb dX2_pop_11 rfl hl (by decide) rfl (fun ls hl => ?_)
  refine lv_aload_n hx hb dX2_pop_12 rfl (lv_at hl 1 rfl) ?_
  refine va_get (D := D) (ci := 1) (v := .ref a1) (C := RX2) (T := TX2) (N := 6) hx hb hts inX2_pop_X2 hown hK hP 0 rfl rfl 0 (by decide) (hts (.fieldLink RX2 9 "BlockCache$Guest" "state" "[I") (by decide +kernel)) (fun _ h9 => h9) rfl dX2_pop_13 ?_
  refine lv_iconst (v := 4) hx hb dX2_pop_16 (by decide) ?_
  refine lv_aload_n hx hb dX2_pop_17 rfl (lv_at hl 1 rfl) ?_
  refine va_get (D := D) (ci := 1) (v := .ref a1) (C := RX2) (T := TX2) (N := 6) hx hb hts inX2_pop_X2 hown hK hP 0 rfl rfl 0 (by decide) (hts (.fieldLink RX2 9 "BlockCache$Guest" "state" "[I") (by decide +kernel)) (fun _ h9 => h9) rfl dX2_pop_18 ?_
  refine lv_iconst (v := 4) hx hb dX2_pop_21 (by decide) ?_
  obtain ⟨h_4, hf⟩ := pIn_out hf
  refine va_iald hx hb hK hP 1 0 rfl rfl h_4 dX2_pop_22 ?_
  refine lv_iconst (v := 1) hx hb dX2_pop_23 (by decide) ?_
  refine lv_iadd hx hb dX2_pop_24 ?_
  refine lv_sipush (v := 255) hx hb dX2_pop_25 (by decide) ?_
  refine lv_iand hx hb dX2_pop_28 ?_
  obtain ⟨h_5, hf⟩ := pIn_out hf
  refine va_iast hx hb hK hP hD hS 1 0 rfl rfl h_5 dX2_pop_29 (fun H locs hP hD hS => ?_)
  obtain ⟨u_6, eu_6, hf⟩ := pLet_out hf
  replace hP : va_P D vwCl (wG a0 a1 a2 a3 a4 a5 cI u_6) H := by rw [eu_6]; exact hP
  replace hD : va_D A (wG a0 a1 a2 a3 a4 a5 cI u_6) := by rw [eu_6]; exact hD
  refine lv_iload_n hx hb dX2_pop_30 rfl (lv_at hl 0 rfl) ?_
  have hz := Option.some.inj hf
  subst hz
  exact gRetI hx hb hr hlocks hK hP hD hS rfl rfl dX2_pop_31
theorem ctX2_pop (l : Launch) (D : va_G) (cI : ClassId) (a0 a1 a2 a3 a4 a5 : Nat) (u : TG) (z : Int32 × TG) (hz : fX2_pop u = some z) : CtI l yX2_pop wsX2_pop rmX2_pop D vwCl [(cI, .int)] [.ref a0] (wG a0 a1 a2 a3 a4 a5 cI u) z.1 (wG a0 a1 a2 a3 a4 a5 cI z.2) :=
  ctI_of (cc := cX2_pop) (maxL := 2) (ret := (some .int)) (by decide) rfl (Nat.le_of_ble_eq_true rfl) (fun p e s m below meth c A ls C hl hP hD hS => wkX2_pop C z _ s.heap [] ls hz hP hD hS hl)
abbrev rmX2_countDown : Room := { frames := 0, cells := 0, slots := 0, locals := 0 }
theorem inX2_countDown_X2 : ∀ w ∈ wsX20, w ∈ wsX2_countDown := by decide +kernel
set_option maxRecDepth 100000 in
set_option maxHeartbeats 4000000 in
theorem wkX2_countDown {p : Program} {l : Launch} {e : Env} {s : State} {m : MethodId} {args : Array Value} {below : List Frame} {meth : Method} {c : Code} {D : va_G} {cI : ClassId} {A : Nat → Prop} {a0 a1 a2 a3 a4 a5 : Nat} (C : cxt p s m args meth c cX2_countDown none 3 RX2 wsX2_countDown D vwCl [(cI, .int)] A) : ∀ (z : TG) (u : TG) (x1 : Int32) (x2 : Int32) (H : Heap) (locs : List Loc) (ls : Array Slot), fX2_countDown u x1 x2 = some z → va_P D vwCl (wG a0 a1 a2 a3 a4 a5 cI u) H → va_D A (wG a0 a1 a2 a3 a4 a5 cI u) → va_S A s.heap H locs → lv_has ls 3 [(0, .ref a0), (1, .int x1), (2, .int x2)] → W p l e rmX2_countDown s m args below meth c H locs 0 0 (MQ below (oV D vwCl [(cI, .int)] A (wG a0 a1 a2 a3 a4 a5 cI z)) args s 0 0 A) (F0 m 0 ls []) := by
  have C0 := C
  obtain ⟨hx, hb, hr, hml, hown, hts, hlocks, hK, hA⟩ := C
  intro z u x1 x2 H locs ls hf hP hD hS hl
  unfold fX2_countDown at hf
  refine lv_aload_n hx hb dX2_countDown_0 rfl (lv_at hl 0 rfl) ?_
  refine va_get (D := D) (ci := 1) (v := .ref a1) (C := RX2) (T := TX2) (N := 6) hx hb hts inX2_countDown_X2 hown hK hP 0 rfl rfl 0 (by decide) (hts (.fieldLink RX2 9 "BlockCache$Guest" "state" "[I") (by decide +kernel)) (fun _ h9 => h9) rfl dX2_countDown_1 ?_
  refine lv_iload_n hx hb dX2_countDown_4 rfl (lv_at hl 1 rfl) ?_
  refine lv_aload_n hx hb dX2_countDown_5 rfl (lv_at hl 0 rfl) ?_
  refine va_get (D := D) (ci := 1) (v := .ref a1) (C := RX2) (T := TX2) (N := 6) hx hb hts inX2_countDown_X2 hown hK hP 0 rfl rfl 0 (by decide) (hts (.fieldLink RX2 9 "BlockCache$Guest" "state" "[I") (by decide +kernel)) (fun _ h9 => h9) rfl dX2_countDown_6 ?_
  refine lv_iload_n hx hb dX2_countDown_9 rfl (lv_at hl 1 rfl) ?_
  obtain ⟨h_1, hf⟩ := pIn_out hf
  refine va_iald hx hb hK hP 1 0 rfl rfl h_1 dX2_countDown_10 ?_
  refine lv_iconst (v := 1) hx hb dX2_countDown_11 (by decide) ?_
  refine lv_isub hx hb dX2_countDown_12 ?_
  refine lv_sipush (v := 255) hx hb dX2_countDown_13 (by decide) ?_
  refine lv_iand hx hb dX2_countDown_16 ?_
  obtain ⟨h_2, hf⟩ := pIn_out hf
  refine va_iast hx hb hK hP hD hS 1 0 rfl rfl h_2 dX2_countDown_17 (fun H locs hP hD hS => ?_)
  obtain ⟨u_3, eu_3, hf⟩ := pLet_out hf
  replace hP : va_P D vwCl (wG a0 a1 a2 a3 a4 a5 cI u_3) H := by rw [eu_3]; exact hP
  replace hD : va_D A (wG a0 a1 a2 a3 a4 a5 cI u_3) := by rw [eu_3]; exact hD
  refine lv_aload_n hx hb dX2_countDown_18 rfl (lv_at hl 0 rfl) ?_
  refine va_get (D := D) (ci := 1) (v := .ref a1) (C := RX2) (T := TX2) (N := 6) hx hb hts inX2_countDown_X2 hown hK hP 0 rfl rfl 0 (by decide) (hts (.fieldLink RX2 9 "BlockCache$Guest" "state" "[I") (by decide +kernel)) (fun _ h9 => h9) rfl dX2_countDown_19 ?_
  refine lv_iload_n hx hb dX2_countDown_22 rfl (lv_at hl 1 rfl) ?_
  obtain ⟨h_4, hf⟩ := pIn_out hf
  refine va_iald hx hb hK hP 1 0 rfl rfl h_4 dX2_countDown_23 ?_
  refine lv_if_eq (tgt := 35) hx hb dX2_countDown_24 (by decide) (fun c_5 => ?_) (fun c_5 => ?_)
  · replace hf := pI_t c_5 hf
    have hz := Option.some.inj hf
    subst hz
    exact gRetV hx hb hr hlocks hK hP hD hS rfl dX2_countDown_35
  · replace hf := pI_f c_5 hf
    refine lv_aload_n hx hb dX2_countDown_27 rfl (lv_at hl 0 rfl) ?_
    refine va_get (D := D) (ci := 1) (v := .ref a1) (C := RX2) (T := TX2) (N := 6) hx hb hts inX2_countDown_X2 hown hK hP 0 rfl rfl 0 (by decide) (hts (.fieldLink RX2 9 "BlockCache$Guest" "state" "[I") (by decide +kernel)) (fun _ h9 => h9) rfl dX2_countDown_28 ?_
    refine lv_bipush (v := 9) hx hb dX2_countDown_31 (by decide) ?_
    refine lv_iload_n hx hb dX2_countDown_33 rfl (lv_at hl 2 rfl) ?_
    obtain ⟨h_6, hf⟩ := pIn_out hf
    refine va_iast hx hb hK hP hD hS 1 0 rfl rfl h_6 dX2_countDown_34 (fun H locs hP hD hS => ?_)
    obtain ⟨u_7, eu_7, hf⟩ := pLet_out hf
    replace hP : va_P D vwCl (wG a0 a1 a2 a3 a4 a5 cI u_7) H := by rw [eu_7]; exact hP
    replace hD : va_D A (wG a0 a1 a2 a3 a4 a5 cI u_7) := by rw [eu_7]; exact hD
    have hz := Option.some.inj hf
    subst hz
    exact gRetV hx hb hr hlocks hK hP hD hS rfl dX2_countDown_35
theorem ctX2_countDown (l : Launch) (D : va_G) (cI : ClassId) (a0 a1 a2 a3 a4 a5 : Nat) (u : TG) (x1 : Int32) (x2 : Int32) (z : TG) (hz : fX2_countDown u x1 x2 = some z) : CtV l yX2_countDown wsX2_countDown rmX2_countDown D vwCl [(cI, .int)] [.ref a0, .int x1, .int x2] (wG a0 a1 a2 a3 a4 a5 cI u) (wG a0 a1 a2 a3 a4 a5 cI z) :=
  ctV_of (cc := cX2_countDown) (maxL := 3) (ret := none) (by decide) rfl (Nat.le_of_ble_eq_true rfl) (fun p e s m below meth c A ls C hl hP hD hS => wkX2_countDown C z _ _ _ s.heap [] ls hz hP hD hS hl)

abbrev rmX0_sizeOf : Room := { frames := 2, cells := 0, slots := 0, locals := 43 }
theorem inX0_sizeOf_X0 : ∀ w ∈ wsX00, w ∈ wsX0_sizeOf := by decide +kernel
set_option maxRecDepth 100000 in
set_option maxHeartbeats 4000000 in
theorem wkX0_sizeOf_b19 {p : Program} {l : Launch} {e : Env} {s : State} {m : MethodId} {args : Array Value} {below : List Frame} {meth : Method} {c : Code} {D : va_G} {cI : ClassId} {A : Nat → Prop} {a0 a1 a2 a3 a4 a5 a6 a7 : Nat} (C : cxt p s m args meth c cX0_sizeOf (some .int) 4 RX0 wsX0_sizeOf D vwCl [(cI, .int)] A) : ∀ (fu : Nat) (z : Int32) (u : TC) (x1 : Int32) (x2 : Int32) (x3 : Int32) (H : Heap) (locs : List Loc) (ls : Array Slot), fX0_sizeOf_b19 fu u x1 x2 x3 = some z → va_P D vwCl (wC a0 a1 a2 a3 a4 a5 a6 a7 cI u) H → va_D A (wC a0 a1 a2 a3 a4 a5 a6 a7 cI u) → va_S A s.heap H locs → lv_has ls 4 [(0, .ref a0), (1, .int x1), (2, .int x2), (3, .int x3)] → W p l e rmX0_sizeOf s m args below meth c H locs 0 0 (MQ below (oI D vwCl [(cI, .int)] A z (wC a0 a1 a2 a3 a4 a5 a6 a7 cI u)) args s 0 0 A) (F0 m 19 ls []) := by
  have C0 := C
  obtain ⟨hx, hb, hr, hml, hown, hts, hlocks, hK, hA⟩ := C
  intro fu
  induction fu with
  | zero =>
    intro z u x1 x2 x3 H locs ls hf hP hD hS hl
    cases hf
  | succ nn ih =>
    intro z u x1 x2 x3 H locs ls hf hP hD hS hl
    simp only [fX0_sizeOf_b19] at hf
    refine lv_iload_n hx hb dX0_sizeOf_19 rfl (lv_at hl 3 rfl) ?_
    refine lv_aload_n hx hb dX0_sizeOf_20 rfl (lv_at hl 0 rfl) ?_
    refine va_get (D := D) (ci := 0) (v := .ref a2) (C := RX0) (T := TX0) (N := 13) hx hb hts inX0_sizeOf_X0 hown hK hP 0 rfl rfl 1 (by decide) (hts (.fieldLink RX0 15 "BlockCache$Cache" "length" "[I") (by decide +kernel)) (fun _ h9 => h9) rfl dX0_sizeOf_21 ?_
    refine lv_iload_n hx hb dX0_sizeOf_24 rfl (lv_at hl 1 rfl) ?_
    obtain ⟨h_1, hf⟩ := pIn_out hf
    refine va_iald hx hb hK hP 2 0 rfl rfl h_1 dX0_sizeOf_25 ?_
    refine lv_icmp_ge (tgt := 47) hx hb dX0_sizeOf_26 (by decide) (fun c_2 => ?_) (fun c_2 => ?_)
    · replace hf := pI_t c_2 hf
      refine lv_iload_n hx hb dX0_sizeOf_47 rfl (lv_at hl 2 rfl) ?_
      have hz := Option.some.inj hf
      subst hz
      exact gRetI hx hb hr hlocks hK hP hD hS rfl rfl dX0_sizeOf_48
    · replace hf := pI_f c_2 hf
      refine lv_iload_n hx hb dX0_sizeOf_29 rfl (lv_at hl 2 rfl) ?_
      refine lv_aload_n hx hb dX0_sizeOf_30 rfl (lv_at hl 0 rfl) ?_
      refine lv_iload_n hx hb dX0_sizeOf_31 rfl (lv_at hl 1 rfl) ?_
      refine lv_iload_n hx hb dX0_sizeOf_32 rfl (lv_at hl 3 rfl) ?_
      obtain ⟨z_3, hz_3, hf⟩ := pB_out hf
      refine gI (w' := (wC a0 a1 a2 a3 a4 a5 a6 a7 cI u)) (va_runV (As := [.int x1, .int x3]) (rest := [.int x2]) ⟨hx, hb, hml, hown, hts⟩ (ctX0_wordAt l D cI a0 a1 a2 a3 a4 a5 a6 a7 u x1 x3 z_3 hz_3 H.size) (cwV 2 hts gX0_sizeOf_X0_wordAt rfl rfl rfl (by decide +kernel) ⟨Nat.le_of_ble_eq_true rfl, Nat.le_of_ble_eq_true rfl⟩) (gPreV (ci := 0) (C := RX0) (T := TX0) (N := 13) hP hK hD [0, 1, 2, 3, 4, 5, 6, 7] (by decide) rfl 0 rfl rfl) rfl rfl hl.1 rfl (lv_room (Nat.le_of_ble_eq_true rfl)) dX0_sizeOf_33 ⟨Nat.le_of_ble_eq_true rfl, Nat.le_of_ble_eq_true rfl⟩) hP hD hS hA [0, 1, 2, 3, 4, 5, 6, 7] [] [0, 1, 2, 3, 4, 5, 6, 7] rfl rfl (by decide) (by decide) rfl (by decide) (fun H locs hP hD hS => ?_)
      obtain ⟨z_4, hz_4, hf⟩ := pLet_out hf
      refine gI0 (va_runS (As := [.int z_3]) (rest := [.int x2]) ⟨hx, hb, hml, hown, hts⟩ (ctX1_size l D cI z_3 z_4 hz_4.symm H.size) (va_cwS 1 hts gX0_sizeOf_X1_size rfl rfl rfl (by decide +kernel) ⟨Nat.le_of_ble_eq_true rfl, Nat.le_of_ble_eq_true rfl⟩) (gPreS hP hK hD [] (by decide) rfl) rfl rfl hl.1 rfl (lv_room (Nat.le_of_ble_eq_true rfl)) dX0_sizeOf_36 ⟨Nat.le_of_ble_eq_true rfl, Nat.le_of_ble_eq_true rfl⟩) hP hD hS hA (fun H locs hP hS => ?_)
      refine lv_iadd hx hb dX0_sizeOf_39 ?_
      obtain ⟨x_5, ex_5, hf⟩ := pLet_out hf
      refine gTop ex_5 ?_
      refine lv_istore_n (lv' := [(2, .int x_5), (0, .ref a0), (1, .int x1), (3, .int x3)]) hx hb dX0_sizeOf_40 rfl hl (by decide) rfl (fun ls hl => ?_)
      obtain ⟨x_6, ex_6, hf⟩ := pLet_out hf
      refine lv_iinc (v := x_6) (lv' := [(3, .int x_6), (2, .int x_5), (0, .ref a0), (1, .int x1)]) hx hb dX0_sizeOf_41 hl (k := 3) rfl (by rw [ex_6]; rfl) (by decide) rfl (fun ls hl => ?_)
      refine lv_goto (tgt := 19) hx hb dX0_sizeOf_44 (by decide) ?_
      exact ih _ _ _ _ _ H locs ls hf hP hD hS (lv_sub hl [2, 3, 1, 0] rfl)
set_option maxRecDepth 100000 in
set_option maxHeartbeats 4000000 in
theorem wkX0_sizeOf_b16 {p : Program} {l : Launch} {e : Env} {s : State} {m : MethodId} {args : Array Value} {below : List Frame} {meth : Method} {c : Code} {D : va_G} {cI : ClassId} {A : Nat → Prop} {a0 a1 a2 a3 a4 a5 a6 a7 : Nat} (C : cxt p s m args meth c cX0_sizeOf (some .int) 4 RX0 wsX0_sizeOf D vwCl [(cI, .int)] A) : ∀ (z : Int32) (u : TC) (x1 : Int32) (y0 : Int32) (H : Heap) (locs : List Loc) (ls : Array Slot), fX0_sizeOf_b16 u x1 y0 = some z → va_P D vwCl (wC a0 a1 a2 a3 a4 a5 a6 a7 cI u) H → va_D A (wC a0 a1 a2 a3 a4 a5 a6 a7 cI u) → va_S A s.heap H locs → lv_has ls 4 [(0, .ref a0), (1, .int x1)] → W p l e rmX0_sizeOf s m args below meth c H locs 0 0 (MQ below (oI D vwCl [(cI, .int)] A z (wC a0 a1 a2 a3 a4 a5 a6 a7 cI u)) args s 0 0 A) (F0 m 16 ls [.int y0]) := by
  have C0 := C
  obtain ⟨hx, hb, hr, hml, hown, hts, hlocks, hK, hA⟩ := C
  intro z u x1 y0 H locs ls hf hP hD hS hl
  unfold fX0_sizeOf_b16 at hf
  refine lv_istore_n (lv' := [(2, .int y0), (0, .ref a0), (1, .int x1)]) hx hb dX0_sizeOf_16 rfl hl (by decide) rfl (fun ls hl => ?_)
  refine lv_iconst (v := 0) hx hb dX0_sizeOf_17 (by decide) ?_
  refine lv_istore_n (lv' := [(3, .int 0), (2, .int y0), (0, .ref a0), (1, .int x1)]) hx hb dX0_sizeOf_18 rfl hl (by decide) rfl (fun ls hl => ?_)
  exact wkX0_sizeOf_b19 C0 fuelX0_sizeOf_19 _ _ _ _ _ H locs ls hf hP hD hS (lv_sub hl [2, 3, 1, 0] rfl)
set_option maxRecDepth 100000 in
set_option maxHeartbeats 4000000 in
theorem wkX0_sizeOf {p : Program} {l : Launch} {e : Env} {s : State} {m : MethodId} {args : Array Value} {below : List Frame} {meth : Method} {c : Code} {D : va_G} {cI : ClassId} {A : Nat → Prop} {a0 a1 a2 a3 a4 a5 a6 a7 : Nat} (C : cxt p s m args meth c cX0_sizeOf (some .int) 4 RX0 wsX0_sizeOf D vwCl [(cI, .int)] A) : ∀ (z : Int32) (u : TC) (x1 : Int32) (H : Heap) (locs : List Loc) (ls : Array Slot), fX0_sizeOf u x1 = some z → va_P D vwCl (wC a0 a1 a2 a3 a4 a5 a6 a7 cI u) H → va_D A (wC a0 a1 a2 a3 a4 a5 a6 a7 cI u) → va_S A s.heap H locs → lv_has ls 4 [(0, .ref a0), (1, .int x1)] → W p l e rmX0_sizeOf s m args below meth c H locs 0 0 (MQ below (oI D vwCl [(cI, .int)] A z (wC a0 a1 a2 a3 a4 a5 a6 a7 cI u)) args s 0 0 A) (F0 m 0 ls []) := by
  have C0 := C
  obtain ⟨hx, hb, hr, hml, hown, hts, hlocks, hK, hA⟩ := C
  intro z u x1 H locs ls hf hP hD hS hl
  unfold fX0_sizeOf at hf
  refine lv_aload_n hx hb dX0_sizeOf_0 rfl (lv_at hl 0 rfl) ?_
  refine lv_iload_n hx hb dX0_sizeOf_1 rfl (lv_at hl 1 rfl) ?_
  obtain ⟨z_1, hz_1, hf⟩ := pB_out hf
  refine gI (w' := (wC a0 a1 a2 a3 a4 a5 a6 a7 cI u)) (va_runV (As := [.int x1]) (rest := []) ⟨hx, hb, hml, hown, hts⟩ (ctX0_lastKind l D cI a0 a1 a2 a3 a4 a5 a6 a7 u x1 z_1 hz_1 H.size) (cwV 1 hts gX0_sizeOf_X0_lastKind rfl rfl rfl (by decide +kernel) ⟨Nat.le_of_ble_eq_true rfl, Nat.le_of_ble_eq_true rfl⟩) (gPreV (ci := 0) (C := RX0) (T := TX0) (N := 13) hP hK hD [0, 1, 2, 3, 4, 5, 6, 7] (by decide) rfl 0 rfl rfl) rfl rfl hl.1 rfl (lv_room (Nat.le_of_ble_eq_true rfl)) dX0_sizeOf_2 ⟨Nat.le_of_ble_eq_true rfl, Nat.le_of_ble_eq_true rfl⟩) hP hD hS hA [0, 1, 2, 3, 4, 5, 6, 7] [] [0, 1, 2, 3, 4, 5, 6, 7] rfl rfl (by decide) (by decide) rfl (by decide) (fun H locs hP hD hS => ?_)
  obtain ⟨z_2, hz_2, hf⟩ := pLet_out hf
  refine gI0 (va_runS (As := [.int z_1]) (rest := []) ⟨hx, hb, hml, hown, hts⟩ (ctX1_leavesByItself l D cI z_1 z_2 hz_2.symm H.size) (va_cwS 1 hts gX0_sizeOf_X1_leavesByItself rfl rfl rfl (by decide +kernel) ⟨Nat.le_of_ble_eq_true rfl, Nat.le_of_ble_eq_true rfl⟩) (gPreS hP hK hD [] (by decide) rfl) rfl rfl hl.1 rfl (lv_room (Nat.le_of_ble_eq_true rfl)) dX0_sizeOf_5 ⟨Nat.le_of_ble_eq_true rfl, Nat.le_of_ble_eq_true rfl⟩) hP hD hS hA (fun H locs hP hS => ?_)
  refine lv_if_eq (tgt := 15) hx hb dX0_sizeOf_8 (by decide) (fun c_3 => ?_) (fun c_3 => ?_)
  · replace hf := pI_t c_3 hf
    refine lv_iconst (v := 1) hx hb dX0_sizeOf_15 (by decide) ?_
    exact wkX0_sizeOf_b16 C0 _ _ _ _ H locs ls hf hP hD hS (lv_sub hl [0, 1] rfl)
  · replace hf := pI_f c_3 hf
    refine lv_iconst (v := 0) hx hb dX0_sizeOf_11 (by decide) ?_
    refine lv_goto (tgt := 16) hx hb dX0_sizeOf_12 (by decide) ?_
    exact wkX0_sizeOf_b16 C0 _ _ _ _ H locs ls hf hP hD hS (lv_sub hl [0, 1] rfl)
theorem ctX0_sizeOf (l : Launch) (D : va_G) (cI : ClassId) (a0 a1 a2 a3 a4 a5 a6 a7 : Nat) (u : TC) (x1 : Int32) (z : Int32) (hz : fX0_sizeOf u x1 = some z) : CtI l yX0_sizeOf wsX0_sizeOf rmX0_sizeOf D vwCl [(cI, .int)] [.ref a0, .int x1] (wC a0 a1 a2 a3 a4 a5 a6 a7 cI u) z (wC a0 a1 a2 a3 a4 a5 a6 a7 cI u) :=
  ctI_of (cc := cX0_sizeOf) (maxL := 4) (ret := (some .int)) (by decide) rfl (Nat.le_of_ble_eq_true rfl) (fun p e s m below meth c A ls C hl hP hD hS => wkX0_sizeOf C z _ _ s.heap [] ls hz hP hD hS hl)
abbrev rmX0_layExits : Room := { frames := 1, cells := 0, slots := 0, locals := 22 }
theorem inX0_layExits_X0 : ∀ w ∈ wsX00, w ∈ wsX0_layExits := by decide +kernel
set_option maxRecDepth 100000 in
set_option maxHeartbeats 4000000 in
theorem wkX0_layExits_b112 {p : Program} {l : Launch} {e : Env} {s : State} {m : MethodId} {args : Array Value} {below : List Frame} {meth : Method} {c : Code} {D : va_G} {cI : ClassId} {A : Nat → Prop} {a0 a1 a2 a3 a4 a5 a6 a7 : Nat} (C : cxt p s m args meth c cX0_layExits none 6 RX0 wsX0_layExits D vwCl [(cI, .int)] A) : ∀ (z : TC) (u : TC) (x1 : Int32) (y0 : Int32) (y1 : Int32) (H : Heap) (locs : List Loc) (ls : Array Slot), fX0_layExits_b112 u x1 y0 y1 = some z → va_P D vwCl (wC a0 a1 a2 a3 a4 a5 a6 a7 cI u) H → va_D A (wC a0 a1 a2 a3 a4 a5 a6 a7 cI u) → va_S A s.heap H locs → lv_has ls 6 [(0, .ref a0), (1, .int x1)] → W p l e rmX0_layExits s m args below meth c H locs 0 0 (MQ below (oV D vwCl [(cI, .int)] A (wC a0 a1 a2 a3 a4 a5 a6 a7 cI z)) args s 0 0 A) (F0 m 112 ls [.int y0, .int y1, .ref a6]) := by
  have C0 := C
  obtain ⟨hx, hb, hr, hml, hown, hts, hlocks, hK, hA⟩ := C
  intro z u x1 y0 y1 H locs ls hf hP hD hS hl
  unfold fX0_layExits_b112 at hf
  obtain ⟨h_1, hf⟩ := pIn_out hf
  refine va_iast hx hb hK hP hD hS 6 0 rfl rfl h_1 dX0_layExits_112 (fun H locs hP hD hS => ?_)
  obtain ⟨u_2, eu_2, hf⟩ := pLet_out hf
  replace hP : va_P D vwCl (wC a0 a1 a2 a3 a4 a5 a6 a7 cI u_2) H := by rw [eu_2]; exact hP
  replace hD : va_D A (wC a0 a1 a2 a3 a4 a5 a6 a7 cI u_2) := by rw [eu_2]; exact hD
  refine lv_aload_n hx hb dX0_layExits_113 rfl (lv_at hl 0 rfl) ?_
  refine va_get (D := D) (ci := 0) (v := .ref a7) (C := RX0) (T := TX0) (N := 13) hx hb hts inX0_layExits_X0 hown hK hP 0 rfl rfl 6 (by decide) (hts (.fieldLink RX0 30 "BlockCache$Cache" "linkedSerial" "[I") (by decide +kernel)) (fun _ h9 => h9) rfl dX0_layExits_114 ?_
  refine lv_iconst (v := 2) hx hb dX0_layExits_117 (by decide) ?_
  refine lv_iload_n hx hb dX0_layExits_118 rfl (lv_at hl 1 rfl) ?_
  refine lv_imul hx hb dX0_layExits_119 ?_
  refine lv_iconst (v := 0) hx hb dX0_layExits_120 (by decide) ?_
  obtain ⟨h_3, hf⟩ := pIn_out hf
  refine va_iast hx hb hK hP hD hS 7 0 rfl rfl h_3 dX0_layExits_121 (fun H locs hP hD hS => ?_)
  obtain ⟨u_4, eu_4, hf⟩ := pLet_out hf
  replace hP : va_P D vwCl (wC a0 a1 a2 a3 a4 a5 a6 a7 cI u_4) H := by rw [eu_4]; exact hP
  replace hD : va_D A (wC a0 a1 a2 a3 a4 a5 a6 a7 cI u_4) := by rw [eu_4]; exact hD
  refine lv_aload_n hx hb dX0_layExits_122 rfl (lv_at hl 0 rfl) ?_
  refine va_get (D := D) (ci := 0) (v := .ref a7) (C := RX0) (T := TX0) (N := 13) hx hb hts inX0_layExits_X0 hown hK hP 0 rfl rfl 6 (by decide) (hts (.fieldLink RX0 30 "BlockCache$Cache" "linkedSerial" "[I") (by decide +kernel)) (fun _ h9 => h9) rfl dX0_layExits_123 ?_
  refine lv_iconst (v := 2) hx hb dX0_layExits_126 (by decide) ?_
  refine lv_iload_n hx hb dX0_layExits_127 rfl (lv_at hl 1 rfl) ?_
  refine lv_imul hx hb dX0_layExits_128 ?_
  refine lv_iconst (v := 1) hx hb dX0_layExits_129 (by decide) ?_
  refine lv_iadd hx hb dX0_layExits_130 ?_
  refine lv_iconst (v := 0) hx hb dX0_layExits_131 (by decide) ?_
  obtain ⟨h_5, hf⟩ := pIn_out hf
  refine va_iast hx hb hK hP hD hS 7 0 rfl rfl h_5 dX0_layExits_132 (fun H locs hP hD hS => ?_)
  obtain ⟨u_6, eu_6, hf⟩ := pLet_out hf
  replace hP : va_P D vwCl (wC a0 a1 a2 a3 a4 a5 a6 a7 cI u_6) H := by rw [eu_6]; exact hP
  replace hD : va_D A (wC a0 a1 a2 a3 a4 a5 a6 a7 cI u_6) := by rw [eu_6]; exact hD
  have hz := Option.some.inj hf
  subst hz
  exact gRetV hx hb hr hlocks hK hP hD hS rfl dX0_layExits_133
set_option maxRecDepth 100000 in
set_option maxHeartbeats 4000000 in
theorem wkX0_layExits_b87 {p : Program} {l : Launch} {e : Env} {s : State} {m : MethodId} {args : Array Value} {below : List Frame} {meth : Method} {c : Code} {D : va_G} {cI : ClassId} {A : Nat → Prop} {a0 a1 a2 a3 a4 a5 a6 a7 : Nat} (C : cxt p s m args meth c cX0_layExits none 6 RX0 wsX0_layExits D vwCl [(cI, .int)] A) : ∀ (z : TC) (u : TC) (x1 : Int32) (x5 : Int32) (y0 : Int32) (y1 : Int32) (H : Heap) (locs : List Loc) (ls : Array Slot), fX0_layExits_b87 u x1 x5 y0 y1 = some z → va_P D vwCl (wC a0 a1 a2 a3 a4 a5 a6 a7 cI u) H → va_D A (wC a0 a1 a2 a3 a4 a5 a6 a7 cI u) → va_S A s.heap H locs → lv_has ls 6 [(0, .ref a0), (1, .int x1), (5, .int x5)] → W p l e rmX0_layExits s m args below meth c H locs 0 0 (MQ below (oV D vwCl [(cI, .int)] A (wC a0 a1 a2 a3 a4 a5 a6 a7 cI z)) args s 0 0 A) (F0 m 87 ls [.int y0, .int y1, .ref a6]) := by
  have C0 := C
  obtain ⟨hx, hb, hr, hml, hown, hts, hlocks, hK, hA⟩ := C
  intro z u x1 x5 y0 y1 H locs ls hf hP hD hS hl
  unfold fX0_layExits_b87 at hf
  obtain ⟨h_1, hf⟩ := pIn_out hf
  refine va_iast hx hb hK hP hD hS 6 0 rfl rfl h_1 dX0_layExits_87 (fun H locs hP hD hS => ?_)
  obtain ⟨u_2, eu_2, hf⟩ := pLet_out hf
  replace hP : va_P D vwCl (wC a0 a1 a2 a3 a4 a5 a6 a7 cI u_2) H := by rw [eu_2]; exact hP
  replace hD : va_D A (wC a0 a1 a2 a3 a4 a5 a6 a7 cI u_2) := by rw [eu_2]; exact hD
  refine lv_aload_n hx hb dX0_layExits_88 rfl (lv_at hl 0 rfl) ?_
  refine va_get (D := D) (ci := 0) (v := .ref a6) (C := RX0) (T := TX0) (N := 13) hx hb hts inX0_layExits_X0 hown hK hP 0 rfl rfl 5 (by decide) (hts (.fieldLink RX0 27 "BlockCache$Cache" "exitPlace" "[I") (by decide +kernel)) (fun _ h9 => h9) rfl dX0_layExits_89 ?_
  refine lv_iconst (v := 2) hx hb dX0_layExits_92 (by decide) ?_
  refine lv_iload_n hx hb dX0_layExits_93 rfl (lv_at hl 1 rfl) ?_
  refine lv_imul hx hb dX0_layExits_94 ?_
  refine lv_iconst (v := 1) hx hb dX0_layExits_95 (by decide) ?_
  refine lv_iadd hx hb dX0_layExits_96 ?_
  refine lv_iload hx hb dX0_layExits_97 (lv_at hl 2 rfl) ?_
  refine lv_if_eq (tgt := 111) hx hb dX0_layExits_99 (by decide) (fun c_3 => ?_) (fun c_3 => ?_)
  · replace hf := pI_t c_3 hf
    refine lv_iconst (v := (-1)) hx hb dX0_layExits_111 (by decide) ?_
    exact wkX0_layExits_b112 C0 _ _ _ _ _ H locs ls hf hP hD hS (lv_sub hl [0, 1] rfl)
  · replace hf := pI_f c_3 hf
    refine lv_aload_n hx hb dX0_layExits_102 rfl (lv_at hl 0 rfl) ?_
    refine va_get (D := D) (ci := 0) (v := .ref a3) (C := RX0) (T := TX0) (N := 13) hx hb hts inX0_layExits_X0 hown hK hP 0 rfl rfl 2 (by decide) (hts (.fieldLink RX0 18 "BlockCache$Cache" "behind" "[I") (by decide +kernel)) (fun _ h9 => h9) rfl dX0_layExits_103 ?_
    refine lv_iload_n hx hb dX0_layExits_106 rfl (lv_at hl 1 rfl) ?_
    obtain ⟨h_4, hf⟩ := pIn_out hf
    refine va_iald hx hb hK hP 3 0 rfl rfl h_4 dX0_layExits_107 ?_
    refine lv_goto (tgt := 112) hx hb dX0_layExits_108 (by decide) ?_
    exact wkX0_layExits_b112 C0 _ _ _ _ _ H locs ls hf hP hD hS (lv_sub hl [0, 1] rfl)
set_option maxRecDepth 100000 in
set_option maxHeartbeats 4000000 in
theorem wkX0_layExits_b65 {p : Program} {l : Launch} {e : Env} {s : State} {m : MethodId} {args : Array Value} {below : List Frame} {meth : Method} {c : Code} {D : va_G} {cI : ClassId} {A : Nat → Prop} {a0 a1 a2 a3 a4 a5 a6 a7 : Nat} (C : cxt p s m args meth c cX0_layExits none 6 RX0 wsX0_layExits D vwCl [(cI, .int)] A) : ∀ (z : TC) (u : TC) (x1 : Int32) (x2 : Int32) (x4 : Int32) (y0 : Int32) (H : Heap) (locs : List Loc) (ls : Array Slot), fX0_layExits_b65 u x1 x2 x4 y0 = some z → va_P D vwCl (wC a0 a1 a2 a3 a4 a5 a6 a7 cI u) H → va_D A (wC a0 a1 a2 a3 a4 a5 a6 a7 cI u) → va_S A s.heap H locs → lv_has ls 6 [(0, .ref a0), (1, .int x1), (2, .int x2), (4, .int x4)] → W p l e rmX0_layExits s m args below meth c H locs 0 0 (MQ below (oV D vwCl [(cI, .int)] A (wC a0 a1 a2 a3 a4 a5 a6 a7 cI z)) args s 0 0 A) (F0 m 65 ls [.int y0]) := by
  have C0 := C
  obtain ⟨hx, hb, hr, hml, hown, hts, hlocks, hK, hA⟩ := C
  intro z u x1 x2 x4 y0 H locs ls hf hP hD hS hl
  unfold fX0_layExits_b65 at hf
  refine lv_istore (lv' := [(5, .int y0), (0, .ref a0), (1, .int x1), (2, .int x2), (4, .int x4)]) hx hb dX0_layExits_65 hl (by decide) rfl (fun ls hl => ?_)
  refine lv_aload_n hx hb dX0_layExits_67 rfl (lv_at hl 1 rfl) ?_
  refine va_get (D := D) (ci := 0) (v := .ref a6) (C := RX0) (T := TX0) (N := 13) hx hb hts inX0_layExits_X0 hown hK hP 0 rfl rfl 5 (by decide) (hts (.fieldLink RX0 27 "BlockCache$Cache" "exitPlace" "[I") (by decide +kernel)) (fun _ h9 => h9) rfl dX0_layExits_68 ?_
  refine lv_iconst (v := 2) hx hb dX0_layExits_71 (by decide) ?_
  refine lv_iload_n hx hb dX0_layExits_72 rfl (lv_at hl 2 rfl) ?_
  refine lv_imul hx hb dX0_layExits_73 ?_
  refine lv_iload hx hb dX0_layExits_74 (lv_at hl 4 rfl) ?_
  refine lv_if_eq (tgt := 86) hx hb dX0_layExits_76 (by decide) (fun c_1 => ?_) (fun c_1 => ?_)
  · replace hf := pI_t c_1 hf
    refine lv_iconst (v := (-1)) hx hb dX0_layExits_86 (by decide) ?_
    exact wkX0_layExits_b87 C0 _ _ _ _ _ _ H locs ls hf hP hD hS (lv_sub hl [1, 2, 0] rfl)
  · replace hf := pI_f c_1 hf
    refine lv_iload_n hx hb dX0_layExits_79 rfl (lv_at hl 3 rfl) ?_
    obtain ⟨z_2, hz_2, hf⟩ := pLet_out hf
    refine gI0 (va_runS (As := [.int x2]) (rest := [.int (2 * x1), .ref a6]) ⟨hx, hb, hml, hown, hts⟩ (ctX1_n l D cI x2 z_2 hz_2.symm H.size) (va_cwS 1 hts gX0_layExits_X1_n rfl rfl rfl (by decide +kernel) ⟨Nat.le_of_ble_eq_true rfl, Nat.le_of_ble_eq_true rfl⟩) (gPreS hP hK hD [] (by decide) rfl) rfl rfl hl.1 rfl (lv_room (Nat.le_of_ble_eq_true rfl)) dX0_layExits_80 ⟨Nat.le_of_ble_eq_true rfl, Nat.le_of_ble_eq_true rfl⟩) hP hD hS hA (fun H locs hP hS => ?_)
    refine lv_goto (tgt := 87) hx hb dX0_layExits_83 (by decide) ?_
    exact wkX0_layExits_b87 C0 _ _ _ _ _ _ H locs ls hf hP hD hS (lv_sub hl [1, 2, 0] rfl)
set_option maxRecDepth 100000 in
set_option maxHeartbeats 4000000 in
theorem wkX0_layExits_b60 {p : Program} {l : Launch} {e : Env} {s : State} {m : MethodId} {args : Array Value} {below : List Frame} {meth : Method} {c : Code} {D : va_G} {cI : ClassId} {A : Nat → Prop} {a0 a1 a2 a3 a4 a5 a6 a7 : Nat} (C : cxt p s m args meth c cX0_layExits none 6 RX0 wsX0_layExits D vwCl [(cI, .int)] A) : ∀ (z : TC) (u : TC) (x1 : Int32) (x2 : Int32) (x4 : Int32) (H : Heap) (locs : List Loc) (ls : Array Slot), fX0_layExits_b60 u x1 x2 x4 = some z → va_P D vwCl (wC a0 a1 a2 a3 a4 a5 a6 a7 cI u) H → va_D A (wC a0 a1 a2 a3 a4 a5 a6 a7 cI u) → va_S A s.heap H locs → lv_has ls 6 [(0, .ref a0), (1, .int x1), (2, .int x2), (4, .int x4)] → W p l e rmX0_layExits s m args below meth c H locs 0 0 (MQ below (oV D vwCl [(cI, .int)] A (wC a0 a1 a2 a3 a4 a5 a6 a7 cI z)) args s 0 0 A) (F0 m 60 ls []) := by
  have C0 := C
  obtain ⟨hx, hb, hr, hml, hown, hts, hlocks, hK, hA⟩ := C
  intro z u x1 x2 x4 H locs ls hf hP hD hS hl
  unfold fX0_layExits_b60 at hf
  refine lv_iconst (v := 1) hx hb dX0_layExits_60 (by decide) ?_
  refine lv_goto (tgt := 65) hx hb dX0_layExits_61 (by decide) ?_
  exact wkX0_layExits_b65 C0 _ _ _ _ _ _ H locs ls hf hP hD hS (lv_sub hl [0, 1, 2, 3] rfl)
set_option maxRecDepth 100000 in
set_option maxHeartbeats 4000000 in
theorem wkX0_layExits_b39 {p : Program} {l : Launch} {e : Env} {s : State} {m : MethodId} {args : Array Value} {below : List Frame} {meth : Method} {c : Code} {D : va_G} {cI : ClassId} {A : Nat → Prop} {a0 a1 a2 a3 a4 a5 a6 a7 : Nat} (C : cxt p s m args meth c cX0_layExits none 6 RX0 wsX0_layExits D vwCl [(cI, .int)] A) : ∀ (z : TC) (u : TC) (x1 : Int32) (x2 : Int32) (x3 : Int32) (y0 : Int32) (H : Heap) (locs : List Loc) (ls : Array Slot), fX0_layExits_b39 u x1 x2 x3 y0 = some z → va_P D vwCl (wC a0 a1 a2 a3 a4 a5 a6 a7 cI u) H → va_D A (wC a0 a1 a2 a3 a4 a5 a6 a7 cI u) → va_S A s.heap H locs → lv_has ls 6 [(0, .ref a0), (1, .int x1), (2, .int x2), (3, .int x3)] → W p l e rmX0_layExits s m args below meth c H locs 0 0 (MQ below (oV D vwCl [(cI, .int)] A (wC a0 a1 a2 a3 a4 a5 a6 a7 cI z)) args s 0 0 A) (F0 m 39 ls [.int y0]) := by
  have C0 := C
  obtain ⟨hx, hb, hr, hml, hown, hts, hlocks, hK, hA⟩ := C
  intro z u x1 x2 x3 y0 H locs ls hf hP hD hS hl
  unfold fX0_layExits_b39 at hf
  refine lv_istore (lv' := [(4, .int y0), (0, .ref a0), (1, .int x1), (2, .int x2), (3, .int x3)]) hx hb dX0_layExits_39 hl (by decide) rfl (fun ls hl => ?_)
  refine lv_iload_n hx hb dX0_layExits_41 rfl (lv_at hl 4 rfl) ?_
  refine lv_bipush (v := 24) hx hb dX0_layExits_42 (by decide) ?_
  refine lv_icmp_eq (tgt := 60) hx hb dX0_layExits_44 (by decide) (fun c_1 => ?_) (fun c_1 => ?_)
  · replace hf := pI_t c_1 hf
    exact wkX0_layExits_b60 C0 _ _ _ _ _ H locs ls hf hP hD hS (lv_sub hl [1, 2, 3, 0] rfl)
  · replace hf := pI_f c_1 hf
    refine lv_iload_n hx hb dX0_layExits_47 rfl (lv_at hl 4 rfl) ?_
    refine lv_bipush (v := 29) hx hb dX0_layExits_48 (by decide) ?_
    refine lv_icmp_eq (tgt := 60) hx hb dX0_layExits_50 (by decide) (fun c_2 => ?_) (fun c_2 => ?_)
    · replace hf := pI_t c_2 hf
      exact wkX0_layExits_b60 C0 _ _ _ _ _ H locs ls hf hP hD hS (lv_sub hl [1, 2, 3, 0] rfl)
    · replace hf := pI_f c_2 hf
      refine lv_iload_n hx hb dX0_layExits_53 rfl (lv_at hl 4 rfl) ?_
      obtain ⟨z_3, hz_3, hf⟩ := pLet_out hf
      refine gI0 (va_runS (As := [.int x3]) (rest := []) ⟨hx, hb, hml, hown, hts⟩ (ctX1_leavesByItself l D cI x3 z_3 hz_3.symm H.size) (va_cwS 1 hts gX0_layExits_X1_leavesByItself rfl rfl rfl (by decide +kernel) ⟨Nat.le_of_ble_eq_true rfl, Nat.le_of_ble_eq_true rfl⟩) (gPreS hP hK hD [] (by decide) rfl) rfl rfl hl.1 rfl (lv_room (Nat.le_of_ble_eq_true rfl)) dX0_layExits_54 ⟨Nat.le_of_ble_eq_true rfl, Nat.le_of_ble_eq_true rfl⟩) hP hD hS hA (fun H locs hP hS => ?_)
      refine lv_if_ne (tgt := 64) hx hb dX0_layExits_57 (by decide) (fun c_4 => ?_) (fun c_4 => ?_)
      · replace hf := pI_f c_4 hf
        refine lv_iconst (v := 0) hx hb dX0_layExits_64 (by decide) ?_
        exact wkX0_layExits_b65 C0 _ _ _ _ _ _ H locs ls hf hP hD hS (lv_sub hl [1, 2, 3, 0] rfl)
      · replace hf := pI_t c_4 hf
        exact wkX0_layExits_b60 C0 _ _ _ _ _ H locs ls hf hP hD hS (lv_sub hl [1, 2, 3, 0] rfl)
set_option maxRecDepth 100000 in
set_option maxHeartbeats 4000000 in
theorem wkX0_layExits_b38 {p : Program} {l : Launch} {e : Env} {s : State} {m : MethodId} {args : Array Value} {below : List Frame} {meth : Method} {c : Code} {D : va_G} {cI : ClassId} {A : Nat → Prop} {a0 a1 a2 a3 a4 a5 a6 a7 : Nat} (C : cxt p s m args meth c cX0_layExits none 6 RX0 wsX0_layExits D vwCl [(cI, .int)] A) : ∀ (z : TC) (u : TC) (x1 : Int32) (x2 : Int32) (x3 : Int32) (H : Heap) (locs : List Loc) (ls : Array Slot), fX0_layExits_b38 u x1 x2 x3 = some z → va_P D vwCl (wC a0 a1 a2 a3 a4 a5 a6 a7 cI u) H → va_D A (wC a0 a1 a2 a3 a4 a5 a6 a7 cI u) → va_S A s.heap H locs → lv_has ls 6 [(0, .ref a0), (1, .int x1), (2, .int x2), (3, .int x3)] → W p l e rmX0_layExits s m args below meth c H locs 0 0 (MQ below (oV D vwCl [(cI, .int)] A (wC a0 a1 a2 a3 a4 a5 a6 a7 cI z)) args s 0 0 A) (F0 m 38 ls []) := by
  have C0 := C
  obtain ⟨hx, hb, hr, hml, hown, hts, hlocks, hK, hA⟩ := C
  intro z u x1 x2 x3 H locs ls hf hP hD hS hl
  unfold fX0_layExits_b38 at hf
  refine lv_iconst (v := 0) hx hb dX0_layExits_38 (by decide) ?_
  exact wkX0_layExits_b39 C0 _ _ _ _ _ _ H locs ls hf hP hD hS (lv_sub hl [0, 1, 2, 3] rfl)
set_option maxRecDepth 100000 in
set_option maxHeartbeats 4000000 in
theorem wkX0_layExits {p : Program} {l : Launch} {e : Env} {s : State} {m : MethodId} {args : Array Value} {below : List Frame} {meth : Method} {c : Code} {D : va_G} {cI : ClassId} {A : Nat → Prop} {a0 a1 a2 a3 a4 a5 a6 a7 : Nat} (C : cxt p s m args meth c cX0_layExits none 6 RX0 wsX0_layExits D vwCl [(cI, .int)] A) : ∀ (z : TC) (u : TC) (x1 : Int32) (H : Heap) (locs : List Loc) (ls : Array Slot), fX0_layExits u x1 = some z → va_P D vwCl (wC a0 a1 a2 a3 a4 a5 a6 a7 cI u) H → va_D A (wC a0 a1 a2 a3 a4 a5 a6 a7 cI u) → va_S A s.heap H locs → lv_has ls 6 [(0, .ref a0), (1, .int x1)] → W p l e rmX0_layExits s m args below meth c H locs 0 0 (MQ below (oV D vwCl [(cI, .int)] A (wC a0 a1 a2 a3 a4 a5 a6 a7 cI z)) args s 0 0 A) (F0 m 0 ls []) := by
  have C0 := C
  obtain ⟨hx, hb, hr, hml, hown, hts, hlocks, hK, hA⟩ := C
  intro z u x1 H locs ls hf hP hD hS hl
  unfold fX0_layExits at hf
  refine lv_aload_n hx hb dX0_layExits_0 rfl (lv_at hl 0 rfl) ?_
  refine lv_iload_n hx hb dX0_layExits_1 rfl (lv_at hl 1 rfl) ?_
  refine lv_aload_n hx hb dX0_layExits_2 rfl (lv_at hl 0 rfl) ?_
  refine va_get (D := D) (ci := 0) (v := .ref a2) (C := RX0) (T := TX0) (N := 13) hx hb hts inX0_layExits_X0 hown hK hP 0 rfl rfl 1 (by decide) (hts (.fieldLink RX0 15 "BlockCache$Cache" "length" "[I") (by decide +kernel)) (fun _ h9 => h9) rfl dX0_layExits_3 ?_
  refine lv_iload_n hx hb dX0_layExits_6 rfl (lv_at hl 1 rfl) ?_
  obtain ⟨h_1, hf⟩ := pIn_out hf
  refine va_iald hx hb hK hP 2 0 rfl rfl h_1 dX0_layExits_7 ?_
  refine lv_iconst (v := 1) hx hb dX0_layExits_8 (by decide) ?_
  refine lv_isub hx hb dX0_layExits_9 ?_
  obtain ⟨z_2, hz_2, hf⟩ := pB_out hf
  refine gI (w' := (wC a0 a1 a2 a3 a4 a5 a6 a7 cI u)) (va_runV (As := [.int x1, .int (((gC_length u) x1.toNatClampNeg) - 1)]) (rest := []) ⟨hx, hb, hml, hown, hts⟩ (ctX0_wordAt l D cI a0 a1 a2 a3 a4 a5 a6 a7 u x1 (((gC_length u) x1.toNatClampNeg) - 1) z_2 hz_2 H.size) (cwV 2 hts gX0_layExits_X0_wordAt rfl rfl rfl (by decide +kernel) ⟨Nat.le_of_ble_eq_true rfl, Nat.le_of_ble_eq_true rfl⟩) (gPreV (ci := 0) (C := RX0) (T := TX0) (N := 13) hP hK hD [0, 1, 2, 3, 4, 5, 6, 7] (by decide) rfl 0 rfl rfl) rfl rfl hl.1 rfl (lv_room (Nat.le_of_ble_eq_true rfl)) dX0_layExits_10 ⟨Nat.le_of_ble_eq_true rfl, Nat.le_of_ble_eq_true rfl⟩) hP hD hS hA [0, 1, 2, 3, 4, 5, 6, 7] [] [0, 1, 2, 3, 4, 5, 6, 7] rfl rfl (by decide) (by decide) rfl (by decide) (fun H locs hP hD hS => ?_)
  refine lv_istore_n (lv' := [(2, .int z_2), (0, .ref a0), (1, .int x1)]) hx hb dX0_layExits_13 rfl hl (by decide) rfl (fun ls hl => ?_)
  refine lv_iload_n hx hb dX0_layExits_14 rfl (lv_at hl 0 rfl) ?_
  obtain ⟨z_3, hz_3, hf⟩ := pLet_out hf
  refine gI0 (va_runS (As := [.int z_2]) (rest := []) ⟨hx, hb, hml, hown, hts⟩ (ctX1_kind l D cI z_2 z_3 hz_3.symm H.size) (va_cwS 1 hts gX0_layExits_X1_kind rfl rfl rfl (by decide +kernel) ⟨Nat.le_of_ble_eq_true rfl, Nat.le_of_ble_eq_true rfl⟩) (gPreS hP hK hD [] (by decide) rfl) rfl rfl hl.1 rfl (lv_room (Nat.le_of_ble_eq_true rfl)) dX0_layExits_15 ⟨Nat.le_of_ble_eq_true rfl, Nat.le_of_ble_eq_true rfl⟩) hP hD hS hA (fun H locs hP hS => ?_)
  refine lv_istore_n (lv' := [(3, .int z_3), (2, .int z_2), (0, .ref a0), (1, .int x1)]) hx hb dX0_layExits_18 rfl hl (by decide) rfl (fun ls hl => ?_)
  refine lv_iload_n hx hb dX0_layExits_19 rfl (lv_at hl 0 rfl) ?_
  obtain ⟨z_4, hz_4, hf⟩ := pLet_out hf
  refine gI0 (va_runS (As := [.int z_3]) (rest := []) ⟨hx, hb, hml, hown, hts⟩ (ctX1_leavesByItself l D cI z_3 z_4 hz_4.symm H.size) (va_cwS 1 hts gX0_layExits_X1_leavesByItself rfl rfl rfl (by decide +kernel) ⟨Nat.le_of_ble_eq_true rfl, Nat.le_of_ble_eq_true rfl⟩) (gPreS hP hK hD [] (by decide) rfl) rfl rfl hl.1 rfl (lv_room (Nat.le_of_ble_eq_true rfl)) dX0_layExits_20 ⟨Nat.le_of_ble_eq_true rfl, Nat.le_of_ble_eq_true rfl⟩) hP hD hS hA (fun H locs hP hS => ?_)
  refine lv_if_eq (tgt := 38) hx hb dX0_layExits_23 (by decide) (fun c_5 => ?_) (fun c_5 => ?_)
  · replace hf := pI_t c_5 hf
    exact wkX0_layExits_b38 C0 _ _ _ _ _ H locs ls hf hP hD hS (lv_sub hl [2, 3, 1, 0] rfl)
  · replace hf := pI_f c_5 hf
    refine lv_iload_n hx hb dX0_layExits_26 rfl (lv_at hl 0 rfl) ?_
    obtain ⟨z_6, hz_6, hf⟩ := pLet_out hf
    refine gI0 (va_runS (As := [.int z_3]) (rest := []) ⟨hx, hb, hml, hown, hts⟩ (ctX1_bytes l D cI z_3 z_6 hz_6.symm H.size) (va_cwS 1 hts gX0_layExits_X1_bytes rfl rfl rfl (by decide +kernel) ⟨Nat.le_of_ble_eq_true rfl, Nat.le_of_ble_eq_true rfl⟩) (gPreS hP hK hD [] (by decide) rfl) rfl rfl hl.1 rfl (lv_room (Nat.le_of_ble_eq_true rfl)) dX0_layExits_27 ⟨Nat.le_of_ble_eq_true rfl, Nat.le_of_ble_eq_true rfl⟩) hP hD hS hA (fun H locs hP hS => ?_)
    refine lv_iconst (v := 2) hx hb dX0_layExits_30 (by decide) ?_
    refine lv_icmp_ne (tgt := 38) hx hb dX0_layExits_31 (by decide) (fun c_7 => ?_) (fun c_7 => ?_)
    · replace hf := pI_f c_7 hf
      exact wkX0_layExits_b38 C0 _ _ _ _ _ H locs ls hf hP hD hS (lv_sub hl [2, 3, 1, 0] rfl)
    · replace hf := pI_t c_7 hf
      refine lv_iconst (v := 1) hx hb dX0_layExits_34 (by decide) ?_
      refine lv_goto (tgt := 39) hx hb dX0_layExits_35 (by decide) ?_
      exact wkX0_layExits_b39 C0 _ _ _ _ _ _ H locs ls hf hP hD hS (lv_sub hl [2, 3, 1, 0] rfl)
theorem ctX0_layExits (l : Launch) (D : va_G) (cI : ClassId) (a0 a1 a2 a3 a4 a5 a6 a7 : Nat) (u : TC) (x1 : Int32) (z : TC) (hz : fX0_layExits u x1 = some z) : CtV l yX0_layExits wsX0_layExits rmX0_layExits D vwCl [(cI, .int)] [.ref a0, .int x1] (wC a0 a1 a2 a3 a4 a5 a6 a7 cI u) (wC a0 a1 a2 a3 a4 a5 a6 a7 cI z) :=
  ctV_of (cc := cX0_layExits) (maxL := 6) (ret := none) (by decide) rfl (Nat.le_of_ble_eq_true rfl) (fun p e s m below meth c A ls C hl hP hD hS => wkX0_layExits C z _ _ s.heap [] ls hz hP hD hS hl)
abbrev rmX0_translate : Room := { frames := 3, cells := 0, slots := 0, locals := 73 }
theorem inX0_translate_X0 : ∀ w ∈ wsX00, w ∈ wsX0_translate := by decide +kernel
set_option maxRecDepth 100000 in
set_option maxHeartbeats 4000000 in
theorem wkX0_translate_b79 {p : Program} {l : Launch} {e : Env} {s : State} {m : MethodId} {args : Array Value} {below : List Frame} {meth : Method} {c : Code} {D : va_G} {cI : ClassId} {A : Nat → Prop} {a0 a1 a2 a3 a4 a5 a6 a7 b0 : Nat} (C : cxt p s m args meth c cX0_translate (some .boolean) 4 RX0 wsX0_translate D vwCl [(cI, .int)] A) : ∀ (z : Int32 × TC) (u : TC) (f0 : (Nat → Int32)) (x2 : Int32) (x3 : Int32) (H : Heap) (locs : List Loc) (ls : Array Slot), fX0_translate_b79 u f0 x2 x3 = some z → va_P D vwCl (wCm a0 a1 a2 a3 a4 a5 a6 a7 b0 cI u f0) H → va_D A (wCm a0 a1 a2 a3 a4 a5 a6 a7 b0 cI u f0) → va_S A s.heap H locs → lv_has ls 4 [(0, .ref a0), (2, .int x2), (3, .int x3)] → W p l e rmX0_translate s m args below meth c H locs 0 0 (MQ below (oI D vwCl [(cI, .int)] A z.1 (wCm a0 a1 a2 a3 a4 a5 a6 a7 b0 cI z.2 f0)) args s 0 0 A) (F0 m 79 ls []) := by
  have C0 := C
  obtain ⟨hx, hb, hr, hml, hown, hts, hlocks, hK, hA⟩ := C
  intro z u f0 x2 x3 H locs ls hf hP hD hS hl
  unfold fX0_translate_b79 at hf
  refine lv_aload_n hx hb dX0_translate_79 rfl (lv_at hl 0 rfl) ?_
  refine lv_dup hx hb dX0_translate_80 rfl ?_
  refine va_get (D := D) (ci := 0) (v := .int (gC_translated u)) (C := RX0) (T := TX0) (N := 13) hx hb hts inX0_translate_X0 hown hK hP 0 rfl rfl 10 (by decide) (hts (.fieldLink RX0 57 "BlockCache$Cache" "translated" "I") (by decide +kernel)) (fun _ h9 => h9) rfl dX0_translate_81 ?_
  refine lv_iconst (v := 1) hx hb dX0_translate_84 (by decide) ?_
  refine lv_iadd hx hb dX0_translate_85 ?_
  refine va_put (D := D) (ci := 0) (v := .int ((gC_translated u) + 1)) (ty := .int) (C := RX0) (T := TX0) (N := 13) hx hb hts inX0_translate_X0 tyX0 tyX0_ok nmX0 hown hK hP hD hS 0 rfl rfl 10 (by decide) (hts (.fieldLink RX0 57 "BlockCache$Cache" "translated" "I") (by decide +kernel)) (fun _ h9 => h9) rfl (by decide +kernel) rfl rfl (Nat.le_of_ble_eq_true rfl) dX0_translate_86 (fun H locs hP hD hS => ?_)
  obtain ⟨u_1, eu_1, hf⟩ := pLet_out hf
  replace hP : va_P D vwCl (wCm a0 a1 a2 a3 a4 a5 a6 a7 b0 cI u_1 f0) H := by rw [eu_1]; exact hP
  replace hD : va_D A (wCm a0 a1 a2 a3 a4 a5 a6 a7 b0 cI u_1 f0) := by rw [eu_1]; exact hD
  refine lv_aload_n hx hb dX0_translate_89 rfl (lv_at hl 0 rfl) ?_
  refine lv_dup hx hb dX0_translate_90 rfl ?_
  refine va_get (D := D) (ci := 0) (v := .int (gC_deadFlags u_1)) (C := RX0) (T := TX0) (N := 13) hx hb hts inX0_translate_X0 hown hK hP 0 rfl rfl 12 (by decide) (hts (.fieldLink RX0 60 "BlockCache$Cache" "deadFlags" "I") (by decide +kernel)) (fun _ h9 => h9) rfl dX0_translate_91 ?_
  refine lv_iload_n hx hb dX0_translate_94 rfl (lv_at hl 2 rfl) ?_
  refine lv_iadd hx hb dX0_translate_95 ?_
  refine va_put (D := D) (ci := 0) (v := .int ((gC_deadFlags u_1) + x3)) (ty := .int) (C := RX0) (T := TX0) (N := 13) hx hb hts inX0_translate_X0 tyX0 tyX0_ok nmX0 hown hK hP hD hS 0 rfl rfl 12 (by decide) (hts (.fieldLink RX0 60 "BlockCache$Cache" "deadFlags" "I") (by decide +kernel)) (fun _ h9 => h9) rfl (by decide +kernel) rfl rfl (Nat.le_of_ble_eq_true rfl) dX0_translate_96 (fun H locs hP hD hS => ?_)
  obtain ⟨u_2, eu_2, hf⟩ := pLet_out hf
  replace hP : va_P D vwCl (wCm a0 a1 a2 a3 a4 a5 a6 a7 b0 cI u_2 f0) H := by rw [eu_2]; exact hP
  replace hD : va_D A (wCm a0 a1 a2 a3 a4 a5 a6 a7 b0 cI u_2 f0) := by rw [eu_2]; exact hD
  refine lv_aload_n hx hb dX0_translate_99 rfl (lv_at hl 0 rfl) ?_
  refine va_get (D := D) (ci := 0) (v := .ref a5) (C := RX0) (T := TX0) (N := 13) hx hb hts inX0_translate_X0 hown hK hP 0 rfl rfl 4 (by decide) (hts (.fieldLink RX0 24 "BlockCache$Cache" "serial" "[I") (by decide +kernel)) (fun _ h9 => h9) rfl dX0_translate_100 ?_
  refine lv_iload_n hx hb dX0_translate_103 rfl (lv_at hl 1 rfl) ?_
  refine lv_aload_n hx hb dX0_translate_104 rfl (lv_at hl 0 rfl) ?_
  refine va_get (D := D) (ci := 0) (v := .int (gC_translated u_2)) (C := RX0) (T := TX0) (N := 13) hx hb hts inX0_translate_X0 hown hK hP 0 rfl rfl 10 (by decide) (hts (.fieldLink RX0 57 "BlockCache$Cache" "translated" "I") (by decide +kernel)) (fun _ h9 => h9) rfl dX0_translate_105 ?_
  obtain ⟨h_3, hf⟩ := pIn_out hf
  refine va_iast hx hb hK hP hD hS 5 0 rfl rfl h_3 dX0_translate_108 (fun H locs hP hD hS => ?_)
  obtain ⟨u_4, eu_4, hf⟩ := pLet_out hf
  replace hP : va_P D vwCl (wCm a0 a1 a2 a3 a4 a5 a6 a7 b0 cI u_4 f0) H := by rw [eu_4]; exact hP
  replace hD : va_D A (wCm a0 a1 a2 a3 a4 a5 a6 a7 b0 cI u_4 f0) := by rw [eu_4]; exact hD
  refine lv_aload_n hx hb dX0_translate_109 rfl (lv_at hl 0 rfl) ?_
  refine lv_dup hx hb dX0_translate_110 rfl ?_
  refine va_get (D := D) (ci := 0) (v := .int (gC_blocks u_4)) (C := RX0) (T := TX0) (N := 13) hx hb hts inX0_translate_X0 hown hK hP 0 rfl rfl 8 (by decide) (hts (.fieldLink RX0 63 "BlockCache$Cache" "blocks" "I") (by decide +kernel)) (fun _ h9 => h9) rfl dX0_translate_111 ?_
  refine lv_iconst (v := 1) hx hb dX0_translate_114 (by decide) ?_
  refine lv_iadd hx hb dX0_translate_115 ?_
  refine va_put (D := D) (ci := 0) (v := .int ((gC_blocks u_4) + 1)) (ty := .int) (C := RX0) (T := TX0) (N := 13) hx hb hts inX0_translate_X0 tyX0 tyX0_ok nmX0 hown hK hP hD hS 0 rfl rfl 8 (by decide) (hts (.fieldLink RX0 63 "BlockCache$Cache" "blocks" "I") (by decide +kernel)) (fun _ h9 => h9) rfl (by decide +kernel) rfl rfl (Nat.le_of_ble_eq_true rfl) dX0_translate_116 (fun H locs hP hD hS => ?_)
  obtain ⟨u_5, eu_5, hf⟩ := pLet_out hf
  replace hP : va_P D vwCl (wCm a0 a1 a2 a3 a4 a5 a6 a7 b0 cI u_5 f0) H := by rw [eu_5]; exact hP
  replace hD : va_D A (wCm a0 a1 a2 a3 a4 a5 a6 a7 b0 cI u_5 f0) := by rw [eu_5]; exact hD
  refine lv_aload_n hx hb dX0_translate_119 rfl (lv_at hl 0 rfl) ?_
  refine lv_dup hx hb dX0_translate_120 rfl ?_
  refine va_get (D := D) (ci := 0) (v := .int (gC_filled u_5)) (C := RX0) (T := TX0) (N := 13) hx hb hts inX0_translate_X0 hown hK hP 0 rfl rfl 9 (by decide) (hts (.fieldLink RX0 48 "BlockCache$Cache" "filled" "I") (by decide +kernel)) (fun _ h9 => h9) rfl dX0_translate_121 ?_
  refine lv_aload_n hx hb dX0_translate_124 rfl (lv_at hl 0 rfl) ?_
  refine va_get (D := D) (ci := 0) (v := .ref a4) (C := RX0) (T := TX0) (N := 13) hx hb hts inX0_translate_X0 hown hK hP 0 rfl rfl 3 (by decide) (hts (.fieldLink RX0 21 "BlockCache$Cache" "size" "[I") (by decide +kernel)) (fun _ h9 => h9) rfl dX0_translate_125 ?_
  refine lv_iload_n hx hb dX0_translate_128 rfl (lv_at hl 1 rfl) ?_
  obtain ⟨h_6, hf⟩ := pIn_out hf
  refine va_iald hx hb hK hP 4 0 rfl rfl h_6 dX0_translate_129 ?_
  refine lv_iadd hx hb dX0_translate_130 ?_
  refine va_put (D := D) (ci := 0) (v := .int ((gC_filled u_5) + ((gC_size u_5) x2.toNatClampNeg))) (ty := .int) (C := RX0) (T := TX0) (N := 13) hx hb hts inX0_translate_X0 tyX0 tyX0_ok nmX0 hown hK hP hD hS 0 rfl rfl 9 (by decide) (hts (.fieldLink RX0 48 "BlockCache$Cache" "filled" "I") (by decide +kernel)) (fun _ h9 => h9) rfl (by decide +kernel) rfl rfl (Nat.le_of_ble_eq_true rfl) dX0_translate_131 (fun H locs hP hD hS => ?_)
  obtain ⟨u_7, eu_7, hf⟩ := pLet_out hf
  replace hP : va_P D vwCl (wCm a0 a1 a2 a3 a4 a5 a6 a7 b0 cI u_7 f0) H := by rw [eu_7]; exact hP
  replace hD : va_D A (wCm a0 a1 a2 a3 a4 a5 a6 a7 b0 cI u_7 f0) := by rw [eu_7]; exact hD
  refine lv_aload_n hx hb dX0_translate_134 rfl (lv_at hl 0 rfl) ?_
  refine lv_iload_n hx hb dX0_translate_135 rfl (lv_at hl 1 rfl) ?_
  obtain ⟨z_8, hz_8, hf⟩ := pB_out hf
  refine gV (w' := (wCm a0 a1 a2 a3 a4 a5 a6 a7 b0 cI z_8 f0)) (va_runV (As := [.int x2]) (rest := []) ⟨hx, hb, hml, hown, hts⟩ (ctX0_layExits l D cI a0 a1 a2 a3 a4 a5 a6 a7 u_7 x2 z_8 hz_8 H.size) (cwV 1 hts gX0_translate_X0_layExits rfl rfl rfl (by decide +kernel) ⟨Nat.le_of_ble_eq_true rfl, Nat.le_of_ble_eq_true rfl⟩) (gPreV (ci := 0) (C := RX0) (T := TX0) (N := 13) hP hK hD [0, 1, 2, 3, 4, 5, 6, 7] (by decide) rfl 0 rfl rfl) rfl rfl hl.1 rfl (lv_room (Nat.le_of_ble_eq_true rfl)) dX0_translate_136 ⟨Nat.le_of_ble_eq_true rfl, Nat.le_of_ble_eq_true rfl⟩) hP hD hS hA [0, 1, 2, 3, 4, 5, 6, 7] [8] [1, 2, 3, 4, 5, 6, 7, 8, 0] rfl rfl (by decide) (by decide) rfl (by decide) (fun H locs hP hD hS => ?_)
  refine lv_iconst (v := 1) hx hb dX0_translate_139 (by decide) ?_
  have hz := Option.some.inj hf
  subst hz
  exact gRetZ hx hb hr hlocks hK hP hD hS (by decide) rfl rfl dX0_translate_140
set_option maxRecDepth 100000 in
set_option maxHeartbeats 4000000 in
theorem wkX0_translate {p : Program} {l : Launch} {e : Env} {s : State} {m : MethodId} {args : Array Value} {below : List Frame} {meth : Method} {c : Code} {D : va_G} {cI : ClassId} {A : Nat → Prop} {a0 a1 a2 a3 a4 a5 a6 a7 b0 : Nat} (C : cxt p s m args meth c cX0_translate (some .boolean) 4 RX0 wsX0_translate D vwCl [(cI, .int)] A) : ∀ (z : Int32 × TC) (u : TC) (f0 : (Nat → Int32)) (x2 : Int32) (H : Heap) (locs : List Loc) (ls : Array Slot), fX0_translate u f0 x2 = some z → va_P D vwCl (wCm a0 a1 a2 a3 a4 a5 a6 a7 b0 cI u f0) H → va_D A (wCm a0 a1 a2 a3 a4 a5 a6 a7 b0 cI u f0) → va_S A s.heap H locs → lv_has ls 4 [(0, .ref a0), (1, .ref b0), (2, .int x2)] → W p l e rmX0_translate s m args below meth c H locs 0 0 (MQ below (oI D vwCl [(cI, .int)] A z.1 (wCm a0 a1 a2 a3 a4 a5 a6 a7 b0 cI z.2 f0)) args s 0 0 A) (F0 m 0 ls []) := by
  have C0 := C
  obtain ⟨hx, hb, hr, hml, hown, hts, hlocks, hK, hA⟩ := C
  intro z u f0 x2 H locs ls hf hP hD hS hl
  unfold fX0_translate at hf
  refine lv_aload_n hx hb dX0_translate_0 rfl (lv_at hl 0 rfl) ?_
  refine lv_aload_n hx hb dX0_translate_1 rfl (lv_at hl 1 rfl) ?_
  refine lv_iload_n hx hb dX0_translate_2 rfl (lv_at hl 2 rfl) ?_
  obtain ⟨z_1, hz_1, hf⟩ := pB_out hf
  refine gV (w' := (wCm a0 a1 a2 a3 a4 a5 a6 a7 b0 cI z_1 f0)) (va_runV (As := [.ref b0, .int x2]) (rest := []) ⟨hx, hb, hml, hown, hts⟩ (ctX0_decodeBlock l D cI a0 a1 a2 a3 a4 a5 a6 a7 b0 u f0 x2 z_1 hz_1 H.size) (cwV 2 hts gX0_translate_X0_decodeBlock rfl rfl rfl (by decide +kernel) ⟨Nat.le_of_ble_eq_true rfl, Nat.le_of_ble_eq_true rfl⟩) (gPreV (ci := 0) (C := RX0) (T := TX0) (N := 13) hP hK hD [0, 1, 2, 3, 4, 5, 6, 7, 8] (by decide) rfl 0 rfl rfl) rfl rfl hl.1 rfl (lv_room (Nat.le_of_ble_eq_true rfl)) dX0_translate_3 ⟨Nat.le_of_ble_eq_true rfl, Nat.le_of_ble_eq_true rfl⟩) hP hD hS hA [0, 1, 2, 3, 4, 5, 6, 7, 8] [] [0, 1, 2, 3, 4, 5, 6, 7, 8] rfl rfl (by decide) (by decide) rfl (by decide) (fun H locs hP hD hS => ?_)
  refine lv_aload_n hx hb dX0_translate_6 rfl (lv_at hl 0 rfl) ?_
  refine lv_iload_n hx hb dX0_translate_7 rfl (lv_at hl 2 rfl) ?_
  obtain ⟨z_2, hz_2, hf⟩ := pB_out hf
  refine gI (w' := (wCm a0 a1 a2 a3 a4 a5 a6 a7 b0 cI z_2.2 f0)) (va_runV (As := [.int x2]) (rest := []) ⟨hx, hb, hml, hown, hts⟩ (ctX0_markDead l D cI a0 a1 a2 a3 a4 a5 a6 a7 z_1 x2 z_2 hz_2 H.size) (cwV 1 hts gX0_translate_X0_markDead rfl rfl rfl (by decide +kernel) ⟨Nat.le_of_ble_eq_true rfl, Nat.le_of_ble_eq_true rfl⟩) (gPreV (ci := 0) (C := RX0) (T := TX0) (N := 13) hP hK hD [0, 1, 2, 3, 4, 5, 6, 7] (by decide) rfl 0 rfl rfl) rfl rfl hl.1 rfl (lv_room (Nat.le_of_ble_eq_true rfl)) dX0_translate_8 ⟨Nat.le_of_ble_eq_true rfl, Nat.le_of_ble_eq_true rfl⟩) hP hD hS hA [0, 1, 2, 3, 4, 5, 6, 7] [8] [1, 2, 3, 4, 5, 6, 7, 8, 0] rfl rfl (by decide) (by decide) rfl (by decide) (fun H locs hP hD hS => ?_)
  refine lv_istore_n (lv' := [(3, .int z_2.1), (0, .ref a0), (1, .ref b0), (2, .int x2)]) hx hb dX0_translate_11 rfl hl (by decide) rfl (fun ls hl => ?_)
  refine lv_aload_n hx hb dX0_translate_12 rfl (lv_at hl 1 rfl) ?_
  refine va_get (D := D) (ci := 0) (v := .ref a4) (C := RX0) (T := TX0) (N := 13) hx hb hts inX0_translate_X0 hown hK hP 0 rfl rfl 3 (by decide) (hts (.fieldLink RX0 21 "BlockCache$Cache" "size" "[I") (by decide +kernel)) (fun _ h9 => h9) rfl dX0_translate_13 ?_
  refine lv_iload_n hx hb dX0_translate_16 rfl (lv_at hl 3 rfl) ?_
  refine lv_aload_n hx hb dX0_translate_17 rfl (lv_at hl 1 rfl) ?_
  refine lv_iload_n hx hb dX0_translate_18 rfl (lv_at hl 3 rfl) ?_
  obtain ⟨z_3, hz_3, hf⟩ := pB_out hf
  refine gI (w' := (wCm a0 a1 a2 a3 a4 a5 a6 a7 b0 cI z_2.2 f0)) (va_runV (As := [.int x2]) (rest := [.int x2, .ref a4]) ⟨hx, hb, hml, hown, hts⟩ (ctX0_sizeOf l D cI a0 a1 a2 a3 a4 a5 a6 a7 z_2.2 x2 z_3 hz_3 H.size) (cwV 1 hts gX0_translate_X0_sizeOf rfl rfl rfl (by decide +kernel) ⟨Nat.le_of_ble_eq_true rfl, Nat.le_of_ble_eq_true rfl⟩) (gPreV (ci := 0) (C := RX0) (T := TX0) (N := 13) hP hK hD [0, 1, 2, 3, 4, 5, 6, 7] (by decide) rfl 0 rfl rfl) rfl rfl hl.1 rfl (lv_room (Nat.le_of_ble_eq_true rfl)) dX0_translate_19 ⟨Nat.le_of_ble_eq_true rfl, Nat.le_of_ble_eq_true rfl⟩) hP hD hS hA [0, 1, 2, 3, 4, 5, 6, 7] [8] [1, 2, 3, 4, 5, 6, 7, 8, 0] rfl rfl (by decide) (by decide) rfl (by decide) (fun H locs hP hD hS => ?_)
  obtain ⟨h_4, hf⟩ := pIn_out hf
  refine va_iast hx hb hK hP hD hS 4 0 rfl rfl h_4 dX0_translate_22 (fun H locs hP hD hS => ?_)
  obtain ⟨u_5, eu_5, hf⟩ := pLet_out hf
  replace hP : va_P D vwCl (wCm a0 a1 a2 a3 a4 a5 a6 a7 b0 cI u_5 f0) H := by rw [eu_5]; exact hP
  replace hD : va_D A (wCm a0 a1 a2 a3 a4 a5 a6 a7 b0 cI u_5 f0) := by rw [eu_5]; exact hD
  refine lv_aload_n hx hb dX0_translate_23 rfl (lv_at hl 1 rfl) ?_
  refine va_get (D := D) (ci := 0) (v := .ref a2) (C := RX0) (T := TX0) (N := 13) hx hb hts inX0_translate_X0 hown hK hP 0 rfl rfl 1 (by decide) (hts (.fieldLink RX0 15 "BlockCache$Cache" "length" "[I") (by decide +kernel)) (fun _ h9 => h9) rfl dX0_translate_24 ?_
  refine lv_iload_n hx hb dX0_translate_27 rfl (lv_at hl 3 rfl) ?_
  obtain ⟨h_6, hf⟩ := pIn_out hf
  refine va_iald hx hb hK hP 2 0 rfl rfl h_6 dX0_translate_28 ?_
  refine lv_if_eq (tgt := 45) hx hb dX0_translate_29 (by decide) (fun c_7 => ?_) (fun c_7 => ?_)
  · replace hf := pI_t c_7 hf
    refine lv_iconst (v := 0) hx hb dX0_translate_45 (by decide) ?_
    have hz := Option.some.inj hf
    subst hz
    exact gRetZ hx hb hr hlocks hK hP hD hS (by decide) rfl rfl dX0_translate_46
  · replace hf := pI_f c_7 hf
    refine lv_aload_n hx hb dX0_translate_32 rfl (lv_at hl 1 rfl) ?_
    refine va_get (D := D) (ci := 0) (v := .ref a4) (C := RX0) (T := TX0) (N := 13) hx hb hts inX0_translate_X0 hown hK hP 0 rfl rfl 3 (by decide) (hts (.fieldLink RX0 21 "BlockCache$Cache" "size" "[I") (by decide +kernel)) (fun _ h9 => h9) rfl dX0_translate_33 ?_
    refine lv_iload_n hx hb dX0_translate_36 rfl (lv_at hl 3 rfl) ?_
    obtain ⟨h_8, hf⟩ := pIn_out hf
    refine va_iald hx hb hK hP 4 0 rfl rfl h_8 dX0_translate_37 ?_
    refine lv_aload_n hx hb dX0_translate_38 rfl (lv_at hl 1 rfl) ?_
    refine va_get (D := D) (ci := 0) (v := .int (gC_limit u_5)) (C := RX0) (T := TX0) (N := 13) hx hb hts inX0_translate_X0 hown hK hP 0 rfl rfl 7 (by decide) (hts (.fieldLink RX0 33 "BlockCache$Cache" "limit" "I") (by decide +kernel)) (fun _ h9 => h9) rfl dX0_translate_39 ?_
    refine lv_icmp_le (tgt := 47) hx hb dX0_translate_42 (by decide) (fun c_9 => ?_) (fun c_9 => ?_)
    · replace hf := pI_t c_9 hf
      refine lv_aload_n hx hb dX0_translate_47 rfl (lv_at hl 1 rfl) ?_
      refine va_get (D := D) (ci := 0) (v := .int (gC_filled u_5)) (C := RX0) (T := TX0) (N := 13) hx hb hts inX0_translate_X0 hown hK hP 0 rfl rfl 9 (by decide) (hts (.fieldLink RX0 48 "BlockCache$Cache" "filled" "I") (by decide +kernel)) (fun _ h9 => h9) rfl dX0_translate_48 ?_
      refine lv_aload_n hx hb dX0_translate_51 rfl (lv_at hl 1 rfl) ?_
      refine va_get (D := D) (ci := 0) (v := .ref a4) (C := RX0) (T := TX0) (N := 13) hx hb hts inX0_translate_X0 hown hK hP 0 rfl rfl 3 (by decide) (hts (.fieldLink RX0 21 "BlockCache$Cache" "size" "[I") (by decide +kernel)) (fun _ h9 => h9) rfl dX0_translate_52 ?_
      refine lv_iload_n hx hb dX0_translate_55 rfl (lv_at hl 3 rfl) ?_
      obtain ⟨h_10, hf⟩ := pIn_out hf
      refine va_iald hx hb hK hP 4 0 rfl rfl h_10 dX0_translate_56 ?_
      refine lv_iadd hx hb dX0_translate_57 ?_
      refine lv_aload_n hx hb dX0_translate_58 rfl (lv_at hl 1 rfl) ?_
      refine va_get (D := D) (ci := 0) (v := .int (gC_limit u_5)) (C := RX0) (T := TX0) (N := 13) hx hb hts inX0_translate_X0 hown hK hP 0 rfl rfl 7 (by decide) (hts (.fieldLink RX0 33 "BlockCache$Cache" "limit" "I") (by decide +kernel)) (fun _ h9 => h9) rfl dX0_translate_59 ?_
      refine lv_icmp_le (tgt := 79) hx hb dX0_translate_62 (by decide) (fun c_11 => ?_) (fun c_11 => ?_)
      · replace hf := pI_t c_11 hf
        exact wkX0_translate_b79 C0 _ _ _ _ _ H locs ls hf hP hD hS (lv_sub hl [1, 3, 0] rfl)
      · replace hf := pI_f c_11 hf
        refine lv_aload_n hx hb dX0_translate_65 rfl (lv_at hl 1 rfl) ?_
        obtain ⟨z_12, hz_12, hf⟩ := pB_out hf
        refine gV (w' := (wCm a0 a1 a2 a3 a4 a5 a6 a7 b0 cI z_12 f0)) (va_runV (As := []) (rest := []) ⟨hx, hb, hml, hown, hts⟩ (ctX0_empty l D cI a0 a1 a2 a3 a4 a5 a6 a7 u_5 z_12 hz_12 H.size) (cwV 0 hts gX0_translate_X0_empty rfl rfl rfl (by decide +kernel) ⟨Nat.le_of_ble_eq_true rfl, Nat.le_of_ble_eq_true rfl⟩) (gPreV (ci := 0) (C := RX0) (T := TX0) (N := 13) hP hK hD [0, 1, 2, 3, 4, 5, 6, 7] (by decide) rfl 0 rfl rfl) rfl rfl hl.1 rfl (lv_room (Nat.le_of_ble_eq_true rfl)) dX0_translate_66 ⟨Nat.le_of_ble_eq_true rfl, Nat.le_of_ble_eq_true rfl⟩) hP hD hS hA [0, 1, 2, 3, 4, 5, 6, 7] [8] [1, 2, 3, 4, 5, 6, 7, 8, 0] rfl rfl (by decide) (by decide) rfl (by decide) (fun H locs hP hD hS => ?_)
        refine lv_aload_n hx hb dX0_translate_69 rfl (lv_at hl 1 rfl) ?_
        refine lv_dup hx hb dX0_translate_70 rfl ?_
        refine va_get (D := D) (ci := 0) (v := .int (gC_flushes z_12)) (C := RX0) (T := TX0) (N := 13) hx hb hts inX0_translate_X0 hown hK hP 0 rfl rfl 11 (by decide) (hts (.fieldLink RX0 54 "BlockCache$Cache" "flushes" "I") (by decide +kernel)) (fun _ h9 => h9) rfl dX0_translate_71 ?_
        refine lv_iconst (v := 1) hx hb dX0_translate_74 (by decide) ?_
        refine lv_iadd hx hb dX0_translate_75 ?_
        refine va_put (D := D) (ci := 0) (v := .int ((gC_flushes z_12) + 1)) (ty := .int) (C := RX0) (T := TX0) (N := 13) hx hb hts inX0_translate_X0 tyX0 tyX0_ok nmX0 hown hK hP hD hS 0 rfl rfl 11 (by decide) (hts (.fieldLink RX0 54 "BlockCache$Cache" "flushes" "I") (by decide +kernel)) (fun _ h9 => h9) rfl (by decide +kernel) rfl rfl (Nat.le_of_ble_eq_true rfl) dX0_translate_76 (fun H locs hP hD hS => ?_)
        obtain ⟨u_13, eu_13, hf⟩ := pLet_out hf
        replace hP : va_P D vwCl (wCm a0 a1 a2 a3 a4 a5 a6 a7 b0 cI u_13 f0) H := by rw [eu_13]; exact hP
        replace hD : va_D A (wCm a0 a1 a2 a3 a4 a5 a6 a7 b0 cI u_13 f0) := by rw [eu_13]; exact hD
        exact wkX0_translate_b79 C0 _ _ _ _ _ H locs ls hf hP hD hS (lv_sub hl [1, 3, 0] rfl)
    · replace hf := pI_f c_9 hf
      refine lv_iconst (v := 0) hx hb dX0_translate_45 (by decide) ?_
      have hz := Option.some.inj hf
      subst hz
      exact gRetZ hx hb hr hlocks hK hP hD hS (by decide) rfl rfl dX0_translate_46
theorem ctX0_translate (l : Launch) (D : va_G) (cI : ClassId) (a0 a1 a2 a3 a4 a5 a6 a7 b0 : Nat) (u : TC) (f0 : (Nat → Int32)) (x2 : Int32) (z : Int32 × TC) (hz : fX0_translate u f0 x2 = some z) : CtI l yX0_translate wsX0_translate rmX0_translate D vwCl [(cI, .int)] [.ref a0, .ref b0, .int x2] (wCm a0 a1 a2 a3 a4 a5 a6 a7 b0 cI u f0) z.1 (wCm a0 a1 a2 a3 a4 a5 a6 a7 b0 cI z.2 f0) :=
  ctI_of (cc := cX0_translate) (maxL := 4) (ret := (some .boolean)) (by decide) rfl (Nat.le_of_ble_eq_true rfl) (fun p e s m below meth c A ls C hl hP hD hS => wkX0_translate C z _ _ _ s.heap [] ls hz hP hD hS hl)
abbrev rmX0_link : Room := { frames := 1, cells := 0, slots := 0, locals := 21 }
theorem inX0_link_X0 : ∀ w ∈ wsX00, w ∈ wsX0_link := by decide +kernel
set_option maxRecDepth 100000 in
set_option maxHeartbeats 4000000 in
theorem wkX0_link {p : Program} {l : Launch} {e : Env} {s : State} {m : MethodId} {args : Array Value} {below : List Frame} {meth : Method} {c : Code} {D : va_G} {cI : ClassId} {A : Nat → Prop} {a0 a1 a2 a3 a4 a5 a6 a7 : Nat} (C : cxt p s m args meth c cX0_link none 3 RX0 wsX0_link D vwCl [(cI, .int)] A) : ∀ (z : TC) (u : TC) (x1 : Int32) (x2 : Int32) (H : Heap) (locs : List Loc) (ls : Array Slot), fX0_link u x1 x2 = some z → va_P D vwCl (wC a0 a1 a2 a3 a4 a5 a6 a7 cI u) H → va_D A (wC a0 a1 a2 a3 a4 a5 a6 a7 cI u) → va_S A s.heap H locs → lv_has ls 3 [(0, .ref a0), (1, .int x1), (2, .int x2)] → W p l e rmX0_link s m args below meth c H locs 0 0 (MQ below (oV D vwCl [(cI, .int)] A (wC a0 a1 a2 a3 a4 a5 a6 a7 cI z)) args s 0 0 A) (F0 m 0 ls []) := by
  have C0 := C
  obtain ⟨hx, hb, hr, hml, hown, hts, hlocks, hK, hA⟩ := C
  intro z u x1 x2 H locs ls hf hP hD hS hl
  unfold fX0_link at hf
  refine lv_iload_n hx hb dX0_link_0 rfl (lv_at hl 1 rfl) ?_
  refine lv_iconst (v := (-1)) hx hb dX0_link_1 (by decide) ?_
  refine lv_icmp_eq (tgt := 27) hx hb dX0_link_2 (by decide) (fun c_1 => ?_) (fun c_1 => ?_)
  · replace hf := pI_t c_1 hf
    have hz := Option.some.inj hf
    subst hz
    exact gRetV hx hb hr hlocks hK hP hD hS rfl dX0_link_27
  · replace hf := pI_f c_1 hf
    refine lv_aload_n hx hb dX0_link_5 rfl (lv_at hl 0 rfl) ?_
    refine lv_iload_n hx hb dX0_link_6 rfl (lv_at hl 1 rfl) ?_
    refine lv_iconst (v := 2) hx hb dX0_link_7 (by decide) ?_
    refine lv_idiv hx hb dX0_link_8 (by decide) ?_
    obtain ⟨z_2, hz_2, hf⟩ := pB_out hf
    refine gI (w' := (wC a0 a1 a2 a3 a4 a5 a6 a7 cI u)) (va_runV (As := [.int (x1 / 2)]) (rest := []) ⟨hx, hb, hml, hown, hts⟩ (ctX0_has l D cI a0 a1 a2 a3 a4 a5 a6 a7 u (x1 / 2) z_2 hz_2 H.size) (cwV 1 hts gX0_link_X0_has rfl rfl rfl (by decide +kernel) ⟨Nat.le_of_ble_eq_true rfl, Nat.le_of_ble_eq_true rfl⟩) (gPreV (ci := 0) (C := RX0) (T := TX0) (N := 13) hP hK hD [0, 1, 2, 3, 4, 5, 6, 7] (by decide) rfl 0 rfl rfl) rfl rfl hl.1 rfl (lv_room (Nat.le_of_ble_eq_true rfl)) dX0_link_9 ⟨Nat.le_of_ble_eq_true rfl, Nat.le_of_ble_eq_true rfl⟩) hP hD hS hA [0, 1, 2, 3, 4, 5, 6, 7] [] [0, 1, 2, 3, 4, 5, 6, 7] rfl rfl (by decide) (by decide) rfl (by decide) (fun H locs hP hD hS => ?_)
    refine lv_if_eq (tgt := 27) hx hb dX0_link_12 (by decide) (fun c_3 => ?_) (fun c_3 => ?_)
    · replace hf := pI_t c_3 hf
      have hz := Option.some.inj hf
      subst hz
      exact gRetV hx hb hr hlocks hK hP hD hS rfl dX0_link_27
    · replace hf := pI_f c_3 hf
      refine lv_aload_n hx hb dX0_link_15 rfl (lv_at hl 0 rfl) ?_
      refine va_get (D := D) (ci := 0) (v := .ref a7) (C := RX0) (T := TX0) (N := 13) hx hb hts inX0_link_X0 hown hK hP 0 rfl rfl 6 (by decide) (hts (.fieldLink RX0 30 "BlockCache$Cache" "linkedSerial" "[I") (by decide +kernel)) (fun _ h9 => h9) rfl dX0_link_16 ?_
      refine lv_iload_n hx hb dX0_link_19 rfl (lv_at hl 1 rfl) ?_
      refine lv_aload_n hx hb dX0_link_20 rfl (lv_at hl 0 rfl) ?_
      refine va_get (D := D) (ci := 0) (v := .ref a5) (C := RX0) (T := TX0) (N := 13) hx hb hts inX0_link_X0 hown hK hP 0 rfl rfl 4 (by decide) (hts (.fieldLink RX0 24 "BlockCache$Cache" "serial" "[I") (by decide +kernel)) (fun _ h9 => h9) rfl dX0_link_21 ?_
      refine lv_iload_n hx hb dX0_link_24 rfl (lv_at hl 2 rfl) ?_
      obtain ⟨h_4, hf⟩ := pIn_out hf
      refine va_iald hx hb hK hP 5 0 rfl rfl h_4 dX0_link_25 ?_
      obtain ⟨h_5, hf⟩ := pIn_out hf
      refine va_iast hx hb hK hP hD hS 7 0 rfl rfl h_5 dX0_link_26 (fun H locs hP hD hS => ?_)
      obtain ⟨u_6, eu_6, hf⟩ := pLet_out hf
      replace hP : va_P D vwCl (wC a0 a1 a2 a3 a4 a5 a6 a7 cI u_6) H := by rw [eu_6]; exact hP
      replace hD : va_D A (wC a0 a1 a2 a3 a4 a5 a6 a7 cI u_6) := by rw [eu_6]; exact hD
      have hz := Option.some.inj hf
      subst hz
      exact gRetV hx hb hr hlocks hK hP hD hS rfl dX0_link_27
theorem ctX0_link (l : Launch) (D : va_G) (cI : ClassId) (a0 a1 a2 a3 a4 a5 a6 a7 : Nat) (u : TC) (x1 : Int32) (x2 : Int32) (z : TC) (hz : fX0_link u x1 x2 = some z) : CtV l yX0_link wsX0_link rmX0_link D vwCl [(cI, .int)] [.ref a0, .int x1, .int x2] (wC a0 a1 a2 a3 a4 a5 a6 a7 cI u) (wC a0 a1 a2 a3 a4 a5 a6 a7 cI z) :=
  ctV_of (cc := cX0_link) (maxL := 3) (ret := none) (by decide) rfl (Nat.le_of_ble_eq_true rfl) (fun p e s m below meth c A ls C hl hP hD hS => wkX0_link C z _ _ _ s.heap [] ls hz hP hD hS hl)
abbrev rmX0_exitTo : Room := { frames := 0, cells := 0, slots := 0, locals := 0 }
theorem inX0_exitTo_X0 : ∀ w ∈ wsX00, w ∈ wsX0_exitTo := by decide +kernel
set_option maxRecDepth 100000 in
set_option maxHeartbeats 4000000 in
theorem wkX0_exitTo {p : Program} {l : Launch} {e : Env} {s : State} {m : MethodId} {args : Array Value} {below : List Frame} {meth : Method} {c : Code} {D : va_G} {cI : ClassId} {A : Nat → Prop} {a0 a1 a2 a3 a4 a5 a6 a7 : Nat} (C : cxt p s m args meth c cX0_exitTo (some .int) 3 RX0 wsX0_exitTo D vwCl [(cI, .int)] A) : ∀ (z : Int32) (u : TC) (x1 : Int32) (x2 : Int32) (H : Heap) (locs : List Loc) (ls : Array Slot), fX0_exitTo u x1 x2 = some z → va_P D vwCl (wC a0 a1 a2 a3 a4 a5 a6 a7 cI u) H → va_D A (wC a0 a1 a2 a3 a4 a5 a6 a7 cI u) → va_S A s.heap H locs → lv_has ls 3 [(0, .ref a0), (1, .int x1), (2, .int x2)] → W p l e rmX0_exitTo s m args below meth c H locs 0 0 (MQ below (oI D vwCl [(cI, .int)] A z (wC a0 a1 a2 a3 a4 a5 a6 a7 cI u)) args s 0 0 A) (F0 m 0 ls []) := by
  have C0 := C
  obtain ⟨hx, hb, hr, hml, hown, hts, hlocks, hK, hA⟩ := C
  intro z u x1 x2 H locs ls hf hP hD hS hl
  unfold fX0_exitTo at hf
  refine lv_aload_n hx hb dX0_exitTo_0 rfl (lv_at hl 0 rfl) ?_
  refine va_get (D := D) (ci := 0) (v := .ref a6) (C := RX0) (T := TX0) (N := 13) hx hb hts inX0_exitTo_X0 hown hK hP 0 rfl rfl 5 (by decide) (hts (.fieldLink RX0 27 "BlockCache$Cache" "exitPlace" "[I") (by decide +kernel)) (fun _ h9 => h9) rfl dX0_exitTo_1 ?_
  refine lv_iconst (v := 2) hx hb dX0_exitTo_4 (by decide) ?_
  refine lv_iload_n hx hb dX0_exitTo_5 rfl (lv_at hl 1 rfl) ?_
  refine lv_imul hx hb dX0_exitTo_6 ?_
  obtain ⟨h_1, hf⟩ := pIn_out hf
  refine va_iald hx hb hK hP 6 0 rfl rfl h_1 dX0_exitTo_7 ?_
  refine lv_iload_n hx hb dX0_exitTo_8 rfl (lv_at hl 2 rfl) ?_
  refine lv_icmp_ne (tgt := 16) hx hb dX0_exitTo_9 (by decide) (fun c_2 => ?_) (fun c_2 => ?_)
  · replace hf := pI_f c_2 hf
    refine lv_aload_n hx hb dX0_exitTo_16 rfl (lv_at hl 0 rfl) ?_
    refine va_get (D := D) (ci := 0) (v := .ref a6) (C := RX0) (T := TX0) (N := 13) hx hb hts inX0_exitTo_X0 hown hK hP 0 rfl rfl 5 (by decide) (hts (.fieldLink RX0 27 "BlockCache$Cache" "exitPlace" "[I") (by decide +kernel)) (fun _ h9 => h9) rfl dX0_exitTo_17 ?_
    refine lv_iconst (v := 2) hx hb dX0_exitTo_20 (by decide) ?_
    refine lv_iload_n hx hb dX0_exitTo_21 rfl (lv_at hl 1 rfl) ?_
    refine lv_imul hx hb dX0_exitTo_22 ?_
    refine lv_iconst (v := 1) hx hb dX0_exitTo_23 (by decide) ?_
    refine lv_iadd hx hb dX0_exitTo_24 ?_
    obtain ⟨h_3, hf⟩ := pIn_out hf
    refine va_iald hx hb hK hP 6 0 rfl rfl h_3 dX0_exitTo_25 ?_
    refine lv_iload_n hx hb dX0_exitTo_26 rfl (lv_at hl 2 rfl) ?_
    refine lv_icmp_ne (tgt := 38) hx hb dX0_exitTo_27 (by decide) (fun c_4 => ?_) (fun c_4 => ?_)
    · replace hf := pI_f c_4 hf
      refine lv_iconst (v := (-1)) hx hb dX0_exitTo_38 (by decide) ?_
      have hz := Option.some.inj hf
      subst hz
      exact gRetI hx hb hr hlocks hK hP hD hS rfl rfl dX0_exitTo_39
    · replace hf := pI_t c_4 hf
      refine lv_iconst (v := 2) hx hb dX0_exitTo_30 (by decide) ?_
      refine lv_iload_n hx hb dX0_exitTo_31 rfl (lv_at hl 1 rfl) ?_
      refine lv_imul hx hb dX0_exitTo_32 ?_
      refine lv_iconst (v := 1) hx hb dX0_exitTo_33 (by decide) ?_
      refine lv_iadd hx hb dX0_exitTo_34 ?_
      refine lv_goto (tgt := 39) hx hb dX0_exitTo_35 (by decide) ?_
      have hz := Option.some.inj hf
      subst hz
      exact gRetI hx hb hr hlocks hK hP hD hS rfl rfl dX0_exitTo_39
  · replace hf := pI_t c_2 hf
    refine lv_iconst (v := 2) hx hb dX0_exitTo_12 (by decide) ?_
    refine lv_iload_n hx hb dX0_exitTo_13 rfl (lv_at hl 1 rfl) ?_
    refine lv_imul hx hb dX0_exitTo_14 ?_
    have hz := Option.some.inj hf
    subst hz
    exact gRetI hx hb hr hlocks hK hP hD hS rfl rfl dX0_exitTo_15
theorem ctX0_exitTo (l : Launch) (D : va_G) (cI : ClassId) (a0 a1 a2 a3 a4 a5 a6 a7 : Nat) (u : TC) (x1 : Int32) (x2 : Int32) (z : Int32) (hz : fX0_exitTo u x1 x2 = some z) : CtI l yX0_exitTo wsX0_exitTo rmX0_exitTo D vwCl [(cI, .int)] [.ref a0, .int x1, .int x2] (wC a0 a1 a2 a3 a4 a5 a6 a7 cI u) z (wC a0 a1 a2 a3 a4 a5 a6 a7 cI u) :=
  ctI_of (cc := cX0_exitTo) (maxL := 3) (ret := (some .int)) (by decide) rfl (Nat.le_of_ble_eq_true rfl) (fun p e s m below meth c A ls C hl hP hD hS => wkX0_exitTo C z _ _ _ s.heap [] ls hz hP hD hS hl)

abbrev rmX5_output : Room := { frames := 1, cells := 0, slots := 0, locals := 22 }
theorem inX5_output_X5 : ∀ w ∈ wsX50, w ∈ wsX5_output := by decide +kernel
set_option maxRecDepth 100000 in
set_option maxHeartbeats 4000000 in
theorem wkX5_output {p : Program} {l : Launch} {e : Env} {s : State} {m : MethodId} {args : Array Value} {below : List Frame} {meth : Method} {c : Code} {D : va_G} {cI : ClassId} {A : Nat → Prop} {a0 a1 a2 a3 a4 a5 a6 a7 a8 a9 a10 a11 a12 a13 : Nat} (C : cxt p s m args meth c cX5_output (some .int) 2 RX5 wsX5_output D vwCl [(cI, .int)] A) : ∀ (z : Int32 × TM) (u : TM) (x1 : Int32) (H : Heap) (locs : List Loc) (ls : Array Slot), fX5_output u x1 = some z → va_P D vwCl (wM a0 a1 a2 a3 a4 a5 a6 a7 a8 a9 a10 a11 a12 a13 cI u) H → va_D A (wM a0 a1 a2 a3 a4 a5 a6 a7 a8 a9 a10 a11 a12 a13 cI u) → va_S A s.heap H locs → lv_has ls 2 [(0, .ref a0), (1, .int x1)] → W p l e rmX5_output s m args below meth c H locs 0 0 (MQ below (oI D vwCl [(cI, .int)] A z.1 (wM a0 a1 a2 a3 a4 a5 a6 a7 a8 a9 a10 a11 a12 a13 cI z.2)) args s 0 0 A) (F0 m 0 ls []) := by
  have C0 := C
  obtain ⟨hx, hb, hr, hml, hown, hts, hlocks, hK, hA⟩ := C
  intro z u x1 H locs ls hf hP hD hS hl
  unfold fX5_output at hf
  refine lv_aload_n hx hb dX5_output_0 rfl (lv_at hl 0 rfl) ?_
  refine lv_iconst (v := 0) hx hb dX5_output_1 (by decide) ?_
  refine va_put (D := D) (ci := 4) (v := .int 0) (ty := .int) (C := RX5) (T := TX5) (N := 27) hx hb hts inX5_output_X5 tyX5 tyX5_ok nmX5 hown hK hP hD hS 0 rfl rfl 0 (by decide) (hts (.fieldLink RX5 59 "BlockCacheModel" "refusal" "I") (by decide +kernel)) (fun _ h9 => h9) rfl (by decide +kernel) rfl rfl (Nat.le_of_ble_eq_true rfl) dX5_output_2 (fun H locs hP hD hS => ?_)
  obtain ⟨u_1, eu_1, hf⟩ := pLet_out hf
  replace hP : va_P D vwCl (wM a0 a1 a2 a3 a4 a5 a6 a7 a8 a9 a10 a11 a12 a13 cI u_1) H := by rw [eu_1]; exact hP
  replace hD : va_D A (wM a0 a1 a2 a3 a4 a5 a6 a7 a8 a9 a10 a11 a12 a13 cI u_1) := by rw [eu_1]; exact hD
  refine lv_iload_n hx hb dX5_output_5 rfl (lv_at hl 1 rfl) ?_
  refine lv_iconst (v := 0) hx hb dX5_output_6 (by decide) ?_
  refine lv_aload_n hx hb dX5_output_7 rfl (lv_at hl 0 rfl) ?_
  refine va_get (D := D) (ci := 4) (v := .ref a12) (C := RX5) (T := TX5) (N := 27) hx hb hts inX5_output_X5 hown hK hP 0 rfl rfl 17 (by decide) (hts (.fieldLink RX5 50 "BlockCacheModel" "counts" "[I") (by decide +kernel)) (fun _ h9 => h9) rfl dX5_output_8 ?_
  refine lv_bipush (v := 10) hx hb dX5_output_11 (by decide) ?_
  obtain ⟨h_2, hf⟩ := pIn_out hf
  refine va_iald hx hb hK hP 12 0 rfl rfl h_2 dX5_output_13 ?_
  refine lv_iconst (v := 1) hx hb dX5_output_14 (by decide) ?_
  refine lv_isub hx hb dX5_output_15 ?_
  obtain ⟨z_3, hz_3, hf⟩ := pLet_out hf
  refine gI0 (va_runS (As := [.int x1, .int 0, .int (((gM_counts u_1) ((10 : Int32)).toNatClampNeg) - 1)]) (rest := []) ⟨hx, hb, hml, hown, hts⟩ (ctX5_isIn l D cI x1 0 (((gM_counts u_1) ((10 : Int32)).toNatClampNeg) - 1) z_3 hz_3.symm H.size) (va_cwS 3 hts gX5_output_X5_isIn rfl rfl rfl (by decide +kernel) ⟨Nat.le_of_ble_eq_true rfl, Nat.le_of_ble_eq_true rfl⟩) (gPreS hP hK hD [] (by decide) rfl) rfl rfl hl.1 rfl (lv_room (Nat.le_of_ble_eq_true rfl)) dX5_output_16 ⟨Nat.le_of_ble_eq_true rfl, Nat.le_of_ble_eq_true rfl⟩) hP hD hS hA (fun H locs hP hS => ?_)
  refine lv_if_eq (tgt := 37) hx hb dX5_output_19 (by decide) (fun c_4 => ?_) (fun c_4 => ?_)
  · replace hf := pI_t c_4 hf
    refine lv_iconst (v := (-1)) hx hb dX5_output_37 (by decide) ?_
    have hz := Option.some.inj hf
    subst hz
    exact gRetI hx hb hr hlocks hK hP hD hS rfl rfl dX5_output_38
  · replace hf := pI_f c_4 hf
    refine lv_iload_n hx hb dX5_output_22 rfl (lv_at hl 1 rfl) ?_
    refine lv_bipush (v := 100) hx hb dX5_output_23 (by decide) ?_
    refine lv_icmp_ge (tgt := 37) hx hb dX5_output_25 (by decide) (fun c_5 => ?_) (fun c_5 => ?_)
    · replace hf := pI_t c_5 hf
      refine lv_iconst (v := (-1)) hx hb dX5_output_37 (by decide) ?_
      have hz := Option.some.inj hf
      subst hz
      exact gRetI hx hb hr hlocks hK hP hD hS rfl rfl dX5_output_38
    · replace hf := pI_f c_5 hf
      refine lv_aload_n hx hb dX5_output_28 rfl (lv_at hl 0 rfl) ?_
      refine va_get (D := D) (ci := 4) (v := .ref a5) (C := RX5) (T := TX5) (N := 27) hx hb hts inX5_output_X5 hown hK hP 0 rfl rfl 8 (by decide) (hts (.fieldLink RX5 26 "BlockCacheModel" "given" "[I") (by decide +kernel)) (fun _ h9 => h9) rfl dX5_output_29 ?_
      refine lv_iload_n hx hb dX5_output_32 rfl (lv_at hl 1 rfl) ?_
      obtain ⟨h_6, hf⟩ := pIn_out hf
      refine va_iald hx hb hK hP 5 0 rfl rfl h_6 dX5_output_33 ?_
      refine lv_goto (tgt := 38) hx hb dX5_output_34 (by decide) ?_
      have hz := Option.some.inj hf
      subst hz
      exact gRetI hx hb hr hlocks hK hP hD hS rfl rfl dX5_output_38
theorem ctX5_output (l : Launch) (D : va_G) (cI : ClassId) (a0 a1 a2 a3 a4 a5 a6 a7 a8 a9 a10 a11 a12 a13 : Nat) (u : TM) (x1 : Int32) (z : Int32 × TM) (hz : fX5_output u x1 = some z) : CtI l yX5_output wsX5_output rmX5_output D vwCl [(cI, .int)] [.ref a0, .int x1] (wM a0 a1 a2 a3 a4 a5 a6 a7 a8 a9 a10 a11 a12 a13 cI u) z.1 (wM a0 a1 a2 a3 a4 a5 a6 a7 a8 a9 a10 a11 a12 a13 cI z.2) :=
  ctI_of (cc := cX5_output) (maxL := 2) (ret := (some .int)) (by decide) rfl (Nat.le_of_ble_eq_true rfl) (fun p e s m below meth c A ls C hl hP hD hS => wkX5_output C z _ _ s.heap [] ls hz hP hD hS hl)
abbrev rmX5_count : Room := { frames := 1, cells := 0, slots := 0, locals := 22 }
theorem inX5_count_X5 : ∀ w ∈ wsX50, w ∈ wsX5_count := by decide +kernel
set_option maxRecDepth 100000 in
set_option maxHeartbeats 4000000 in
theorem wkX5_count_b16 {p : Program} {l : Launch} {e : Env} {s : State} {m : MethodId} {args : Array Value} {below : List Frame} {meth : Method} {c : Code} {D : va_G} {cI : ClassId} {A : Nat → Prop} {a0 a1 a2 a3 a4 a5 a6 a7 a8 a9 a10 a11 a12 a13 : Nat} (C : cxt p s m args meth c cX5_count (some .int) 2 RX5 wsX5_count D vwCl [(cI, .int)] A) : ∀ (z : Int32 × TM) (u : TM) (x1 : Int32) (y0 : Int32) (H : Heap) (locs : List Loc) (ls : Array Slot), fX5_count_b16 u x1 y0 = some z → va_P D vwCl (wM a0 a1 a2 a3 a4 a5 a6 a7 a8 a9 a10 a11 a12 a13 cI u) H → va_D A (wM a0 a1 a2 a3 a4 a5 a6 a7 a8 a9 a10 a11 a12 a13 cI u) → va_S A s.heap H locs → lv_has ls 2 [(0, .ref a0), (1, .int x1)] → W p l e rmX5_count s m args below meth c H locs 0 0 (MQ below (oI D vwCl [(cI, .int)] A z.1 (wM a0 a1 a2 a3 a4 a5 a6 a7 a8 a9 a10 a11 a12 a13 cI z.2)) args s 0 0 A) (F0 m 16 ls [.int y0, .ref a0]) := by
  have C0 := C
  obtain ⟨hx, hb, hr, hml, hown, hts, hlocks, hK, hA⟩ := C
  intro z u x1 y0 H locs ls hf hP hD hS hl
  unfold fX5_count_b16 at hf
  obtain ⟨z_1, hz_1, hf⟩ := pLet_out hf
  refine gI (w' := (wM a0 a1 a2 a3 a4 a5 a6 a7 a8 a9 a10 a11 a12 a13 cI z_1.2)) (va_runV (As := [.int y0]) (rest := []) ⟨hx, hb, hml, hown, hts⟩ (ctX5_refused l D cI a0 a1 a2 a3 a4 a5 a6 a7 a8 a9 a10 a11 a12 a13 u y0 z_1 hz_1.symm H.size) (cwV 1 hts gX5_count_X5_refused rfl rfl rfl (by decide +kernel) ⟨Nat.le_of_ble_eq_true rfl, Nat.le_of_ble_eq_true rfl⟩) (gPreV (ci := 4) (C := RX5) (T := TX5) (N := 27) hP hK hD [0, 1, 2, 3, 4, 5, 6, 7, 8, 9, 10, 11, 12, 13] (by decide) rfl 0 rfl rfl) rfl rfl hl.1 rfl (lv_room (Nat.le_of_ble_eq_true rfl)) dX5_count_16 ⟨Nat.le_of_ble_eq_true rfl, Nat.le_of_ble_eq_true rfl⟩) hP hD hS hA [0, 1, 2, 3, 4, 5, 6, 7, 8, 9, 10, 11, 12, 13] [] [0, 1, 2, 3, 4, 5, 6, 7, 8, 9, 10, 11, 12, 13] rfl rfl (by decide) (by decide) rfl (by decide) (fun H locs hP hD hS => ?_)
  refine lv_if_eq (tgt := 24) hx hb dX5_count_19 (by decide) (fun c_2 => ?_) (fun c_2 => ?_)
  · replace hf := pI_t c_2 hf
    refine lv_aload_n hx hb dX5_count_24 rfl (lv_at hl 0 rfl) ?_
    refine va_get (D := D) (ci := 4) (v := .ref a12) (C := RX5) (T := TX5) (N := 27) hx hb hts inX5_count_X5 hown hK hP 0 rfl rfl 17 (by decide) (hts (.fieldLink RX5 50 "BlockCacheModel" "counts" "[I") (by decide +kernel)) (fun _ h9 => h9) rfl dX5_count_25 ?_
    refine lv_iload_n hx hb dX5_count_28 rfl (lv_at hl 1 rfl) ?_
    obtain ⟨h_3, hf⟩ := pIn_out hf
    refine va_iald hx hb hK hP 12 0 rfl rfl h_3 dX5_count_29 ?_
    have hz := Option.some.inj hf
    subst hz
    exact gRetI hx hb hr hlocks hK hP hD hS rfl rfl dX5_count_30
  · replace hf := pI_f c_2 hf
    refine lv_iconst (v := 0) hx hb dX5_count_22 (by decide) ?_
    have hz := Option.some.inj hf
    subst hz
    exact gRetI hx hb hr hlocks hK hP hD hS rfl rfl dX5_count_23
set_option maxRecDepth 100000 in
set_option maxHeartbeats 4000000 in
theorem wkX5_count {p : Program} {l : Launch} {e : Env} {s : State} {m : MethodId} {args : Array Value} {below : List Frame} {meth : Method} {c : Code} {D : va_G} {cI : ClassId} {A : Nat → Prop} {a0 a1 a2 a3 a4 a5 a6 a7 a8 a9 a10 a11 a12 a13 : Nat} (C : cxt p s m args meth c cX5_count (some .int) 2 RX5 wsX5_count D vwCl [(cI, .int)] A) : ∀ (z : Int32 × TM) (u : TM) (x1 : Int32) (H : Heap) (locs : List Loc) (ls : Array Slot), fX5_count u x1 = some z → va_P D vwCl (wM a0 a1 a2 a3 a4 a5 a6 a7 a8 a9 a10 a11 a12 a13 cI u) H → va_D A (wM a0 a1 a2 a3 a4 a5 a6 a7 a8 a9 a10 a11 a12 a13 cI u) → va_S A s.heap H locs → lv_has ls 2 [(0, .ref a0), (1, .int x1)] → W p l e rmX5_count s m args below meth c H locs 0 0 (MQ below (oI D vwCl [(cI, .int)] A z.1 (wM a0 a1 a2 a3 a4 a5 a6 a7 a8 a9 a10 a11 a12 a13 cI z.2)) args s 0 0 A) (F0 m 0 ls []) := by
  have C0 := C
  obtain ⟨hx, hb, hr, hml, hown, hts, hlocks, hK, hA⟩ := C
  intro z u x1 H locs ls hf hP hD hS hl
  unfold fX5_count at hf
  refine lv_aload_n hx hb dX5_count_0 rfl (lv_at hl 0 rfl) ?_
  refine lv_iload_n hx hb dX5_count_1 rfl (lv_at hl 1 rfl) ?_
  refine lv_iconst (v := 0) hx hb dX5_count_2 (by decide) ?_
  refine lv_bipush (v := 11) hx hb dX5_count_3 (by decide) ?_
  obtain ⟨z_1, hz_1, hf⟩ := pLet_out hf
  refine gI0 (va_runS (As := [.int x1, .int 0, .int 11]) (rest := [.ref a0]) ⟨hx, hb, hml, hown, hts⟩ (ctX5_isIn l D cI x1 0 11 z_1 hz_1.symm H.size) (va_cwS 3 hts gX5_count_X5_isIn rfl rfl rfl (by decide +kernel) ⟨Nat.le_of_ble_eq_true rfl, Nat.le_of_ble_eq_true rfl⟩) (gPreS hP hK hD [] (by decide) rfl) rfl rfl hl.1 rfl (lv_room (Nat.le_of_ble_eq_true rfl)) dX5_count_5 ⟨Nat.le_of_ble_eq_true rfl, Nat.le_of_ble_eq_true rfl⟩) hP hD hS hA (fun H locs hP hS => ?_)
  refine lv_if_eq (tgt := 15) hx hb dX5_count_8 (by decide) (fun c_2 => ?_) (fun c_2 => ?_)
  · replace hf := pI_t c_2 hf
    refine lv_iconst (v := 1) hx hb dX5_count_15 (by decide) ?_
    exact wkX5_count_b16 C0 _ _ _ _ H locs ls hf hP hD hS (lv_sub hl [0, 1] rfl)
  · replace hf := pI_f c_2 hf
    refine lv_iconst (v := 0) hx hb dX5_count_11 (by decide) ?_
    refine lv_goto (tgt := 16) hx hb dX5_count_12 (by decide) ?_
    exact wkX5_count_b16 C0 _ _ _ _ H locs ls hf hP hD hS (lv_sub hl [0, 1] rfl)
theorem ctX5_count (l : Launch) (D : va_G) (cI : ClassId) (a0 a1 a2 a3 a4 a5 a6 a7 a8 a9 a10 a11 a12 a13 : Nat) (u : TM) (x1 : Int32) (z : Int32 × TM) (hz : fX5_count u x1 = some z) : CtI l yX5_count wsX5_count rmX5_count D vwCl [(cI, .int)] [.ref a0, .int x1] (wM a0 a1 a2 a3 a4 a5 a6 a7 a8 a9 a10 a11 a12 a13 cI u) z.1 (wM a0 a1 a2 a3 a4 a5 a6 a7 a8 a9 a10 a11 a12 a13 cI z.2) :=
  ctI_of (cc := cX5_count) (maxL := 2) (ret := (some .int)) (by decide) rfl (Nat.le_of_ble_eq_true rfl) (fun p e s m below meth c A ls C hl hP hD hS => wkX5_count C z _ _ s.heap [] ls hz hP hD hS hl)

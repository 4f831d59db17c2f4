abbrev rmX5_goes : Room := { frames := 0, cells := 0, slots := 0, locals := 0 }
theorem inX5_goes_X5 : ∀ w ∈ wsX50, w ∈ wsX5_goes := by decide +kernel
set_option maxRecDepth 100000 in
set_option maxHeartbeats 4000000 in
theorem wkX5_goes_b79 {p : Program} {l : Launch} {e : Env} {s : State} {m : MethodId} {args : Array Value} {below : List Frame} {meth : Method} {c : Code} {D : va_G} {cI : ClassId} {A : Nat → Prop} {a0 a1 a2 a3 a4 a5 a6 a7 a8 a9 a10 a11 a12 a13 : Nat} (C : cxt p s m args meth c cX5_goes (some .boolean) 2 RX5 wsX5_goes D vwCl [(cI, .int)] A) : ∀ (z : Int32) (u : TM) (y0 : Int32) (y1 : Int32) (H : Heap) (locs : List Loc) (ls : Array Slot), fX5_goes_b79 u y0 y1 = some z → va_P D vwCl (wM a0 a1 a2 a3 a4 a5 a6 a7 a8 a9 a10 a11 a12 a13 cI u) H → va_D A (wM a0 a1 a2 a3 a4 a5 a6 a7 a8 a9 a10 a11 a12 a13 cI u) → va_S A s.heap H locs → lv_has ls 2 [] → W p l e rmX5_goes s m args below meth c H locs 0 0 (MQ below (oI D vwCl [(cI, .int)] A z (wM a0 a1 a2 a3 a4 a5 a6 a7 a8 a9 a10 a11 a12 a13 cI u)) args s 0 0 A) (F0 m 79 ls [.int y0, .int y1]) := by
  have C0 := C
  obtain ⟨hx, hb, hr, hml, hown, hts, hlocks, hK, hA⟩ := C
  intro z u y0 y1 H locs ls hf hP hD hS hl
  unfold fX5_goes_b79 at hf
  refine lv_icmp_ne (tgt := 86) hx hb dX5_goes_79 (by decide) (fun c_1 => ?_) (fun c_1 => ?_)
  · replace hf := pI_f c_1 hf
    refine lv_iconst (v := 0) hx hb dX5_goes_86 (by decide) ?_
    have hz := Option.some.inj hf
    subst hz
    exact gRetZ hx hb hr hlocks hK hP hD hS (by decide) rfl rfl dX5_goes_87
  · replace hf := pI_t c_1 hf
    refine lv_iconst (v := 1) hx hb dX5_goes_82 (by decide) ?_
    refine lv_goto (tgt := 87) hx hb dX5_goes_83 (by decide) ?_
    have hz := Option.some.inj hf
    subst hz
    exact gRetZ hx hb hr hlocks hK hP hD hS (by decide) rfl rfl dX5_goes_87
set_option maxRecDepth 100000 in
set_option maxHeartbeats 4000000 in
theorem wkX5_goes_b67 {p : Program} {l : Launch} {e : Env} {s : State} {m : MethodId} {args : Array Value} {below : List Frame} {meth : Method} {c : Code} {D : va_G} {cI : ClassId} {A : Nat → Prop} {a0 a1 a2 a3 a4 a5 a6 a7 a8 a9 a10 a11 a12 a13 : Nat} (C : cxt p s m args meth c cX5_goes (some .boolean) 2 RX5 wsX5_goes D vwCl [(cI, .int)] A) : ∀ (z : Int32) (u : TM) (x1 : Int32) (y0 : Int32) (H : Heap) (locs : List Loc) (ls : Array Slot), fX5_goes_b67 u x1 y0 = some z → va_P D vwCl (wM a0 a1 a2 a3 a4 a5 a6 a7 a8 a9 a10 a11 a12 a13 cI u) H → va_D A (wM a0 a1 a2 a3 a4 a5 a6 a7 a8 a9 a10 a11 a12 a13 cI u) → va_S A s.heap H locs → lv_has ls 2 [(1, .int x1)] → W p l e rmX5_goes s m args below meth c H locs 0 0 (MQ below (oI D vwCl [(cI, .int)] A z (wM a0 a1 a2 a3 a4 a5 a6 a7 a8 a9 a10 a11 a12 a13 cI u)) args s 0 0 A) (F0 m 67 ls [.int y0]) := by
  have C0 := C
  obtain ⟨hx, hb, hr, hml, hown, hts, hlocks, hK, hA⟩ := C
  intro z u x1 y0 H locs ls hf hP hD hS hl
  unfold fX5_goes_b67 at hf
  refine lv_iload_n hx hb dX5_goes_67 rfl (lv_at hl 0 rfl) ?_
  refine lv_iconst (v := 2) hx hb dX5_goes_68 (by decide) ?_
  refine lv_irem hx hb dX5_goes_69 (by decide) ?_
  refine lv_iconst (v := 1) hx hb dX5_goes_70 (by decide) ?_
  refine lv_icmp_ne (tgt := 78) hx hb dX5_goes_71 (by decide) (fun c_1 => ?_) (fun c_1 => ?_)
  · replace hf := pI_f c_1 hf
    refine lv_iconst (v := 0) hx hb dX5_goes_78 (by decide) ?_
    exact wkX5_goes_b79 C0 _ _ _ _ H locs ls hf hP hD hS (lv_sub hl [] rfl)
  · replace hf := pI_t c_1 hf
    refine lv_iconst (v := 1) hx hb dX5_goes_74 (by decide) ?_
    refine lv_goto (tgt := 79) hx hb dX5_goes_75 (by decide) ?_
    exact wkX5_goes_b79 C0 _ _ _ _ H locs ls hf hP hD hS (lv_sub hl [] rfl)
set_option maxRecDepth 100000 in
set_option maxHeartbeats 4000000 in
theorem wkX5_goes {p : Program} {l : Launch} {e : Env} {s : State} {m : MethodId} {args : Array Value} {below : List Frame} {meth : Method} {c : Code} {D : va_G} {cI : ClassId} {A : Nat → Prop} {a0 a1 a2 a3 a4 a5 a6 a7 a8 a9 a10 a11 a12 a13 : Nat} (C : cxt p s m args meth c cX5_goes (some .boolean) 2 RX5 wsX5_goes D vwCl [(cI, .int)] A) : ∀ (z : Int32) (u : TM) (x1 : Int32) (H : Heap) (locs : List Loc) (ls : Array Slot), fX5_goes u x1 = some z → va_P D vwCl (wM a0 a1 a2 a3 a4 a5 a6 a7 a8 a9 a10 a11 a12 a13 cI u) H → va_D A (wM a0 a1 a2 a3 a4 a5 a6 a7 a8 a9 a10 a11 a12 a13 cI u) → va_S A s.heap H locs → lv_has ls 2 [(0, .ref a0), (1, .int x1)] → W p l e rmX5_goes s m args below meth c H locs 0 0 (MQ below (oI D vwCl [(cI, .int)] A z (wM a0 a1 a2 a3 a4 a5 a6 a7 a8 a9 a10 a11 a12 a13 cI u)) args s 0 0 A) (F0 m 0 ls []) := by
  have C0 := C
  obtain ⟨hx, hb, hr, hml, hown, hts, hlocks, hK, hA⟩ := C
  intro z u x1 H locs ls hf hP hD hS hl
  unfold fX5_goes at hf
  refine lv_iload_n hx hb dX5_goes_0 rfl (lv_at hl 1 rfl) ?_
  refine lv_if_eq (tgt := 82) hx hb dX5_goes_1 (by decide) (fun c_1 => ?_) (fun c_1 => ?_)
  · replace hf := pI_t c_1 hf
    refine lv_iconst (v := 1) hx hb dX5_goes_82 (by decide) ?_
    refine lv_goto (tgt := 87) hx hb dX5_goes_83 (by decide) ?_
    have hz := Option.some.inj hf
    subst hz
    exact gRetZ hx hb hr hlocks hK hP hD hS (by decide) rfl rfl dX5_goes_87
  · replace hf := pI_f c_1 hf
    refine lv_iload_n hx hb dX5_goes_4 rfl (lv_at hl 1 rfl) ?_
    refine lv_iconst (v := 3) hx hb dX5_goes_5 (by decide) ?_
    refine lv_icmp_ge (tgt := 27) hx hb dX5_goes_6 (by decide) (fun c_2 => ?_) (fun c_2 => ?_)
    · replace hf := pI_t c_2 hf
      refine lv_iload_n hx hb dX5_goes_27 rfl (lv_at hl 1 rfl) ?_
      refine lv_iconst (v := 5) hx hb dX5_goes_28 (by decide) ?_
      refine lv_icmp_ge (tgt := 51) hx hb dX5_goes_29 (by decide) (fun c_3 => ?_) (fun c_3 => ?_)
      · replace hf := pI_t c_3 hf
        refine lv_aload_n hx hb dX5_goes_51 rfl (lv_at hl 0 rfl) ?_
        refine va_get (D := D) (ci := 4) (v := .ref a2) (C := RX5) (T := TX5) (N := 27) hx hb hts inX5_goes_X5 hown hK hP 0 rfl rfl 2 (by decide) (hts (.fieldLink RX5 13 "BlockCacheModel" "reg" "[I") (by decide +kernel)) (fun _ h9 => h9) rfl dX5_goes_52 ?_
        refine lv_bipush (v := 7) hx hb dX5_goes_55 (by decide) ?_
        obtain ⟨h_4, hf⟩ := pIn_out hf
        refine va_iald hx hb hK hP 2 0 rfl rfl h_4 dX5_goes_57 ?_
        refine lv_iconst (v := 1) hx hb dX5_goes_58 (by decide) ?_
        refine lv_icmp_ne (tgt := 66) hx hb dX5_goes_59 (by decide) (fun c_5 => ?_) (fun c_5 => ?_)
        · replace hf := pI_f c_5 hf
          refine lv_iconst (v := 0) hx hb dX5_goes_66 (by decide) ?_
          exact wkX5_goes_b67 C0 _ _ _ _ H locs ls hf hP hD hS (lv_sub hl [1] rfl)
        · replace hf := pI_t c_5 hf
          refine lv_iconst (v := 1) hx hb dX5_goes_62 (by decide) ?_
          refine lv_goto (tgt := 67) hx hb dX5_goes_63 (by decide) ?_
          exact wkX5_goes_b67 C0 _ _ _ _ H locs ls hf hP hD hS (lv_sub hl [1] rfl)
      · replace hf := pI_f c_3 hf
        refine lv_aload_n hx hb dX5_goes_32 rfl (lv_at hl 0 rfl) ?_
        refine va_get (D := D) (ci := 4) (v := .ref a2) (C := RX5) (T := TX5) (N := 27) hx hb hts inX5_goes_X5 hown hK hP 0 rfl rfl 2 (by decide) (hts (.fieldLink RX5 13 "BlockCacheModel" "reg" "[I") (by decide +kernel)) (fun _ h9 => h9) rfl dX5_goes_33 ?_
        refine lv_bipush (v := 6) hx hb dX5_goes_36 (by decide) ?_
        obtain ⟨h_6, hf⟩ := pIn_out hf
        refine va_iald hx hb hK hP 2 0 rfl rfl h_6 dX5_goes_38 ?_
        refine lv_iconst (v := 1) hx hb dX5_goes_39 (by decide) ?_
        refine lv_icmp_ne (tgt := 47) hx hb dX5_goes_40 (by decide) (fun c_7 => ?_) (fun c_7 => ?_)
        · replace hf := pI_f c_7 hf
          refine lv_iconst (v := 0) hx hb dX5_goes_47 (by decide) ?_
          refine lv_goto (tgt := 67) hx hb dX5_goes_48 (by decide) ?_
          exact wkX5_goes_b67 C0 _ _ _ _ H locs ls hf hP hD hS (lv_sub hl [1] rfl)
        · replace hf := pI_t c_7 hf
          refine lv_iconst (v := 1) hx hb dX5_goes_43 (by decide) ?_
          refine lv_goto (tgt := 67) hx hb dX5_goes_44 (by decide) ?_
          exact wkX5_goes_b67 C0 _ _ _ _ H locs ls hf hP hD hS (lv_sub hl [1] rfl)
    · replace hf := pI_f c_2 hf
      refine lv_aload_n hx hb dX5_goes_9 rfl (lv_at hl 0 rfl) ?_
      refine va_get (D := D) (ci := 4) (v := .ref a2) (C := RX5) (T := TX5) (N := 27) hx hb hts inX5_goes_X5 hown hK hP 0 rfl rfl 2 (by decide) (hts (.fieldLink RX5 13 "BlockCacheModel" "reg" "[I") (by decide +kernel)) (fun _ h9 => h9) rfl dX5_goes_10 ?_
      refine lv_iconst (v := 5) hx hb dX5_goes_13 (by decide) ?_
      obtain ⟨h_8, hf⟩ := pIn_out hf
      refine va_iald hx hb hK hP 2 0 rfl rfl h_8 dX5_goes_14 ?_
      refine lv_iconst (v := 1) hx hb dX5_goes_15 (by decide) ?_
      refine lv_icmp_ne (tgt := 23) hx hb dX5_goes_16 (by decide) (fun c_9 => ?_) (fun c_9 => ?_)
      · replace hf := pI_f c_9 hf
        refine lv_iconst (v := 0) hx hb dX5_goes_23 (by decide) ?_
        refine lv_goto (tgt := 67) hx hb dX5_goes_24 (by decide) ?_
        exact wkX5_goes_b67 C0 _ _ _ _ H locs ls hf hP hD hS (lv_sub hl [1] rfl)
      · replace hf := pI_t c_9 hf
        refine lv_iconst (v := 1) hx hb dX5_goes_19 (by decide) ?_
        refine lv_goto (tgt := 67) hx hb dX5_goes_20 (by decide) ?_
        exact wkX5_goes_b67 C0 _ _ _ _ H locs ls hf hP hD hS (lv_sub hl [1] rfl)
theorem ctX5_goes (l : Launch) (D : va_G) (cI : ClassId) (a0 a1 a2 a3 a4 a5 a6 a7 a8 a9 a10 a11 a12 a13 : Nat) (u : TM) (x1 : Int32) (z : Int32) (hz : fX5_goes u x1 = some z) : CtI l yX5_goes wsX5_goes rmX5_goes D vwCl [(cI, .int)] [.ref a0, .int x1] (wM a0 a1 a2 a3 a4 a5 a6 a7 a8 a9 a10 a11 a12 a13 cI u) z (wM a0 a1 a2 a3 a4 a5 a6 a7 a8 a9 a10 a11 a12 a13 cI u) :=
  ctI_of (cc := cX5_goes) (maxL := 2) (ret := (some .boolean)) (by decide) rfl (Nat.le_of_ble_eq_true rfl) (fun p e s m below meth c A ls C hl hP hD hS => wkX5_goes C z _ _ s.heap [] ls hz hP hD hS hl)
abbrev rmX5_add : Room := { frames := 1, cells := 0, slots := 0, locals := 22 }
theorem inX5_add_X5 : ∀ w ∈ wsX50, w ∈ wsX5_add := by decide +kernel
set_option maxRecDepth 100000 in
set_option maxHeartbeats 4000000 in
theorem wkX5_add {p : Program} {l : Launch} {e : Env} {s : State} {m : MethodId} {args : Array Value} {below : List Frame} {meth : Method} {c : Code} {D : va_G} {cI : ClassId} {A : Nat → Prop} {a0 a1 a2 a3 a4 a5 a6 a7 a8 a9 a10 a11 a12 a13 : Nat} (C : cxt p s m args meth c cX5_add none 5 RX5 wsX5_add D vwCl [(cI, .int)] A) : ∀ (z : TM) (u : TM) (x1 : Int32) (x2 : Int32) (x3 : Int32) (H : Heap) (locs : List Loc) (ls : Array Slot), fX5_add u x1 x2 x3 = some z → va_P D vwCl (wM a0 a1 a2 a3 a4 a5 a6 a7 a8 a9 a10 a11 a12 a13 cI u) H → va_D A (wM a0 a1 a2 a3 a4 a5 a6 a7 a8 a9 a10 a11 a12 a13 cI u) → va_S A s.heap H locs → lv_has ls 5 [(0, .ref a0), (1, .int x1), (2, .int x2), (3, .int x3)] → W p l e rmX5_add s m args below meth c H locs 0 0 (MQ below (oV D vwCl [(cI, .int)] A (wM a0 a1 a2 a3 a4 a5 a6 a7 a8 a9 a10 a11 a12 a13 cI z)) args s 0 0 A) (F0 m 0 ls []) := by
  have C0 := C
  obtain ⟨hx, hb, hr, hml, hown, hts, hlocks, hK, hA⟩ := C
  intro z u x1 x2 x3 H locs ls hf hP hD hS hl
  unfold fX5_add at hf
  refine lv_aload_n hx hb dX5_add_0 rfl (lv_at hl 0 rfl) ?_
  refine va_get (D := D) (ci := 4) (v := .ref a2) (C := RX5) (T := TX5) (N := 27) hx hb hts inX5_add_X5 hown hK hP 0 rfl rfl 2 (by decide) (hts (.fieldLink RX5 13 "BlockCacheModel" "reg" "[I") (by decide +kernel)) (fun _ h9 => h9) rfl dX5_add_1 ?_
  refine lv_iload_n hx hb dX5_add_4 rfl (lv_at hl 1 rfl) ?_
  obtain ⟨h_1, hf⟩ := pIn_out hf
  refine va_iald hx hb hK hP 2 0 rfl rfl h_1 dX5_add_5 ?_
  refine lv_iload_n hx hb dX5_add_6 rfl (lv_at hl 2 rfl) ?_
  refine lv_iadd hx hb dX5_add_7 ?_
  refine lv_iload_n hx hb dX5_add_8 rfl (lv_at hl 3 rfl) ?_
  refine lv_iadd hx hb dX5_add_9 ?_
  obtain ⟨x_2, ex_2, hf⟩ := pLet_out hf
  refine gTop ex_2 ?_
  refine lv_istore (lv' := [(4, .int x_2), (0, .ref a0), (1, .int x1), (2, .int x2), (3, .int x3)]) hx hb dX5_add_10 hl (by decide) rfl (fun ls hl => ?_)
  refine lv_aload_n hx hb dX5_add_12 rfl (lv_at hl 1 rfl) ?_
  refine lv_iload hx hb dX5_add_13 (lv_at hl 0 rfl) ?_
  refine lv_iload hx hb dX5_add_15 (lv_at hl 0 rfl) ?_
  refine lv_bipush (v := 8) hx hb dX5_add_17 (by decide) ?_
  refine lv_ishr hx hb dX5_add_19 ?_
  obtain ⟨z_3, hz_3, hf⟩ := pB_out hf
  refine gV (w' := (wM a0 a1 a2 a3 a4 a5 a6 a7 a8 a9 a10 a11 a12 a13 cI z_3)) (va_runV (As := [.int x_2, .int ((x_2 : Int32) >>> ((8 : Int32) &&& 31))]) (rest := []) ⟨hx, hb, hml, hown, hts⟩ (ctX5_setFlags l D cI a0 a1 a2 a3 a4 a5 a6 a7 a8 a9 a10 a11 a12 a13 u x_2 ((x_2 : Int32) >>> ((8 : Int32) &&& 31)) z_3 hz_3 H.size) (cwV 2 hts gX5_add_X5_setFlags rfl rfl rfl (by decide +kernel) ⟨Nat.le_of_ble_eq_true rfl, Nat.le_of_ble_eq_true rfl⟩) (gPreV (ci := 4) (C := RX5) (T := TX5) (N := 27) hP hK hD [0, 1, 2, 3, 4, 5, 6, 7, 8, 9, 10, 11, 12, 13] (by decide) rfl 0 rfl rfl) rfl rfl hl.1 rfl (lv_room (Nat.le_of_ble_eq_true rfl)) dX5_add_20 ⟨Nat.le_of_ble_eq_true rfl, Nat.le_of_ble_eq_true rfl⟩) hP hD hS hA [0, 1, 2, 3, 4, 5, 6, 7, 8, 9, 10, 11, 12, 13] [] [0, 1, 2, 3, 4, 5, 6, 7, 8, 9, 10, 11, 12, 13] rfl rfl (by decide) (by decide) rfl (by decide) (fun H locs hP hD hS => ?_)
  refine lv_aload_n hx hb dX5_add_23 rfl (lv_at hl 1 rfl) ?_
  refine va_get (D := D) (ci := 4) (v := .ref a2) (C := RX5) (T := TX5) (N := 27) hx hb hts inX5_add_X5 hown hK hP 0 rfl rfl 2 (by decide) (hts (.fieldLink RX5 13 "BlockCacheModel" "reg" "[I") (by decide +kernel)) (fun _ h9 => h9) rfl dX5_add_24 ?_
  refine lv_iload_n hx hb dX5_add_27 rfl (lv_at hl 2 rfl) ?_
  refine lv_iload hx hb dX5_add_28 (lv_at hl 0 rfl) ?_
  refine lv_sipush (v := 255) hx hb dX5_add_30 (by decide) ?_
  refine lv_iand hx hb dX5_add_33 ?_
  obtain ⟨h_4, hf⟩ := pIn_out hf
  refine va_iast hx hb hK hP hD hS 2 0 rfl rfl h_4 dX5_add_34 (fun H locs hP hD hS => ?_)
  obtain ⟨u_5, eu_5, hf⟩ := pLet_out hf
  replace hP : va_P D vwCl (wM a0 a1 a2 a3 a4 a5 a6 a7 a8 a9 a10 a11 a12 a13 cI u_5) H := by rw [eu_5]; exact hP
  replace hD : va_D A (wM a0 a1 a2 a3 a4 a5 a6 a7 a8 a9 a10 a11 a12 a13 cI u_5) := by rw [eu_5]; exact hD
  have hz := Option.some.inj hf
  subst hz
  exact gRetV hx hb hr hlocks hK hP hD hS rfl dX5_add_35
theorem ctX5_add (l : Launch) (D : va_G) (cI : ClassId) (a0 a1 a2 a3 a4 a5 a6 a7 a8 a9 a10 a11 a12 a13 : Nat) (u : TM) (x1 : Int32) (x2 : Int32) (x3 : Int32) (z : TM) (hz : fX5_add u x1 x2 x3 = some z) : CtV l yX5_add wsX5_add rmX5_add D vwCl [(cI, .int)] [.ref a0, .int x1, .int x2, .int x3] (wM a0 a1 a2 a3 a4 a5 a6 a7 a8 a9 a10 a11 a12 a13 cI u) (wM a0 a1 a2 a3 a4 a5 a6 a7 a8 a9 a10 a11 a12 a13 cI z) :=
  ctV_of (cc := cX5_add) (maxL := 5) (ret := none) (by decide) rfl (Nat.le_of_ble_eq_true rfl) (fun p e s m below meth c A ls C hl hP hD hS => wkX5_add C z _ _ _ _ s.heap [] ls hz hP hD hS hl)
abbrev rmX5_less : Room := { frames := 1, cells := 0, slots := 0, locals := 22 }
set_option maxRecDepth 100000 in
set_option maxHeartbeats 4000000 in
theorem wkX5_less_b19 {p : Program} {l : Launch} {e : Env} {s : State} {m : MethodId} {args : Array Value} {below : List Frame} {meth : Method} {c : Code} {D : va_G} {cI : ClassId} {A : Nat → Prop} {a0 a1 a2 a3 a4 a5 a6 a7 a8 a9 a10 a11 a12 a13 : Nat} (C : cxt p s m args meth c cX5_less (some .int) 4 RX5 wsX5_less D vwCl [(cI, .int)] A) : ∀ (z : Int32 × TM) (u : TM) (x3 : Int32) (y0 : Int32) (y1 : Int32) (H : Heap) (locs : List Loc) (ls : Array Slot), fX5_less_b19 u x3 y0 y1 = some z → va_P D vwCl (wM a0 a1 a2 a3 a4 a5 a6 a7 a8 a9 a10 a11 a12 a13 cI u) H → va_D A (wM a0 a1 a2 a3 a4 a5 a6 a7 a8 a9 a10 a11 a12 a13 cI u) → va_S A s.heap H locs → lv_has ls 4 [(3, .int x3)] → W p l e rmX5_less s m args below meth c H locs 0 0 (MQ below (oI D vwCl [(cI, .int)] A z.1 (wM a0 a1 a2 a3 a4 a5 a6 a7 a8 a9 a10 a11 a12 a13 cI z.2)) args s 0 0 A) (F0 m 19 ls [.int y0, .int y1, .ref a0]) := by
  have C0 := C
  obtain ⟨hx, hb, hr, hml, hown, hts, hlocks, hK, hA⟩ := C
  intro z u x3 y0 y1 H locs ls hf hP hD hS hl
  unfold fX5_less_b19 at hf
  obtain ⟨z_1, hz_1, hf⟩ := pB_out hf
  refine gV (w' := (wM a0 a1 a2 a3 a4 a5 a6 a7 a8 a9 a10 a11 a12 a13 cI z_1)) (va_runV (As := [.int y1, .int y0]) (rest := []) ⟨hx, hb, hml, hown, hts⟩ (ctX5_setFlags l D cI a0 a1 a2 a3 a4 a5 a6 a7 a8 a9 a10 a11 a12 a13 u y1 y0 z_1 hz_1 H.size) (cwV 2 hts gX5_less_X5_setFlags rfl rfl rfl (by decide +kernel) ⟨Nat.le_of_ble_eq_true rfl, Nat.le_of_ble_eq_true rfl⟩) (gPreV (ci := 4) (C := RX5) (T := TX5) (N := 27) hP hK hD [0, 1, 2, 3, 4, 5, 6, 7, 8, 9, 10, 11, 12, 13] (by decide) rfl 0 rfl rfl) rfl rfl hl.1 rfl (lv_room (Nat.le_of_ble_eq_true rfl)) dX5_less_19 ⟨Nat.le_of_ble_eq_true rfl, Nat.le_of_ble_eq_true rfl⟩) hP hD hS hA [0, 1, 2, 3, 4, 5, 6, 7, 8, 9, 10, 11, 12, 13] [] [0, 1, 2, 3, 4, 5, 6, 7, 8, 9, 10, 11, 12, 13] rfl rfl (by decide) (by decide) rfl (by decide) (fun H locs hP hD hS => ?_)
  refine lv_iload_n hx hb dX5_less_22 rfl (lv_at hl 0 rfl) ?_
  refine lv_sipush (v := 255) hx hb dX5_less_23 (by decide) ?_
  refine lv_iand hx hb dX5_less_26 ?_
  have hz := Option.some.inj hf
  subst hz
  exact gRetI hx hb hr hlocks hK hP hD hS rfl rfl dX5_less_27
set_option maxRecDepth 100000 in
set_option maxHeartbeats 4000000 in
theorem wkX5_less {p : Program} {l : Launch} {e : Env} {s : State} {m : MethodId} {args : Array Value} {below : List Frame} {meth : Method} {c : Code} {D : va_G} {cI : ClassId} {A : Nat → Prop} {a0 a1 a2 a3 a4 a5 a6 a7 a8 a9 a10 a11 a12 a13 : Nat} (C : cxt p s m args meth c cX5_less (some .int) 4 RX5 wsX5_less D vwCl [(cI, .int)] A) : ∀ (z : Int32 × TM) (u : TM) (x1 : Int32) (x2 : Int32) (H : Heap) (locs : List Loc) (ls : Array Slot), fX5_less u x1 x2 = some z → va_P D vwCl (wM a0 a1 a2 a3 a4 a5 a6 a7 a8 a9 a10 a11 a12 a13 cI u) H → va_D A (wM a0 a1 a2 a3 a4 a5 a6 a7 a8 a9 a10 a11 a12 a13 cI u) → va_S A s.heap H locs → lv_has ls 4 [(0, .ref a0), (1, .int x1), (2, .int x2)] → W p l e rmX5_less s m args below meth c H locs 0 0 (MQ below (oI D vwCl [(cI, .int)] A z.1 (wM a0 a1 a2 a3 a4 a5 a6 a7 a8 a9 a10 a11 a12 a13 cI z.2)) args s 0 0 A) (F0 m 0 ls []) := by
  have C0 := C
  obtain ⟨hx, hb, hr, hml, hown, hts, hlocks, hK, hA⟩ := C
  intro z u x1 x2 H locs ls hf hP hD hS hl
  unfold fX5_less at hf
  refine lv_iload_n hx hb dX5_less_0 rfl (lv_at hl 1 rfl) ?_
  refine lv_iload_n hx hb dX5_less_1 rfl (lv_at hl 2 rfl) ?_
  refine lv_isub hx hb dX5_less_2 ?_
  obtain ⟨x_1, ex_1, hf⟩ := pLet_out hf
  refine gTop ex_1 ?_
  refine lv_istore_n (lv' := [(3, .int x_1), (0, .ref a0), (1, .int x1), (2, .int x2)]) hx hb dX5_less_3 rfl hl (by decide) rfl (fun ls hl => ?_)
  refine lv_aload_n hx hb dX5_less_4 rfl (lv_at hl 1 rfl) ?_
  refine lv_iload_n hx hb dX5_less_5 rfl (lv_at hl 0 rfl) ?_
  refine lv_sipush (v := 255) hx hb dX5_less_6 (by decide) ?_
  refine lv_iand hx hb dX5_less_9 ?_
  refine lv_iload_n hx hb dX5_less_10 rfl (lv_at hl 0 rfl) ?_
  refine lv_if_ge (tgt := 18) hx hb dX5_less_11 (by decide) (fun c_2 => ?_) (fun c_2 => ?_)
  · replace hf := pI_t c_2 hf
    refine lv_iconst (v := 0) hx hb dX5_less_18 (by decide) ?_
    exact wkX5_less_b19 C0 _ _ _ _ _ H locs ls hf hP hD hS (lv_sub hl [0] rfl)
  · replace hf := pI_f c_2 hf
    refine lv_iconst (v := 1) hx hb dX5_less_14 (by decide) ?_
    refine lv_goto (tgt := 19) hx hb dX5_less_15 (by decide) ?_
    exact wkX5_less_b19 C0 _ _ _ _ _ H locs ls hf hP hD hS (lv_sub hl [0] rfl)
theorem ctX5_less (l : Launch) (D : va_G) (cI : ClassId) (a0 a1 a2 a3 a4 a5 a6 a7 a8 a9 a10 a11 a12 a13 : Nat) (u : TM) (x1 : Int32) (x2 : Int32) (z : Int32 × TM) (hz : fX5_less u x1 x2 = some z) : CtI l yX5_less wsX5_less rmX5_less D vwCl [(cI, .int)] [.ref a0, .int x1, .int x2] (wM a0 a1 a2 a3 a4 a5 a6 a7 a8 a9 a10 a11 a12 a13 cI u) z.1 (wM a0 a1 a2 a3 a4 a5 a6 a7 a8 a9 a10 a11 a12 a13 cI z.2) :=
  ctI_of (cc := cX5_less) (maxL := 4) (ret := (some .int)) (by decide) rfl (Nat.le_of_ble_eq_true rfl) (fun p e s m below meth c A ls C hl hP hD hS => wkX5_less C z _ _ _ s.heap [] ls hz hP hD hS hl)
abbrev rmX5_shift : Room := { frames := 1, cells := 0, slots := 0, locals := 22 }
theorem inX5_shift_X5 : ∀ w ∈ wsX50, w ∈ wsX5_shift := by decide +kernel
set_option maxRecDepth 100000 in
set_option maxHeartbeats 4000000 in
theorem wkX5_shift_b98 {p : Program} {l : Launch} {e : Env} {s : State} {m : MethodId} {args : Array Value} {below : List Frame} {meth : Method} {c : Code} {D : va_G} {cI : ClassId} {A : Nat → Prop} {a0 a1 a2 a3 a4 a5 a6 a7 a8 a9 a10 a11 a12 a13 : Nat} (C : cxt p s m args meth c cX5_shift none 7 RX5 wsX5_shift D vwCl [(cI, .int)] A) : ∀ (z : TM) (u : TM) (x1 : Int32) (x6 : Int32) (y0 : Int32) (y1 : Int32) (H : Heap) (locs : List Loc) (ls : Array Slot), fX5_shift_b98 u x1 x6 y0 y1 = some z → va_P D vwCl (wM a0 a1 a2 a3 a4 a5 a6 a7 a8 a9 a10 a11 a12 a13 cI u) H → va_D A (wM a0 a1 a2 a3 a4 a5 a6 a7 a8 a9 a10 a11 a12 a13 cI u) → va_S A s.heap H locs → lv_has ls 7 [(0, .ref a0), (1, .int x1), (6, .int x6)] → W p l e rmX5_shift s m args below meth c H locs 0 0 (MQ below (oV D vwCl [(cI, .int)] A (wM a0 a1 a2 a3 a4 a5 a6 a7 a8 a9 a10 a11 a12 a13 cI z)) args s 0 0 A) (F0 m 98 ls [.int y0, .int y1, .ref a0]) := by
  have C0 := C
  obtain ⟨hx, hb, hr, hml, hown, hts, hlocks, hK, hA⟩ := C
  intro z u x1 x6 y0 y1 H locs ls hf hP hD hS hl
  unfold fX5_shift_b98 at hf
  obtain ⟨z_1, hz_1, hf⟩ := pB_out hf
  refine gV (w' := (wM a0 a1 a2 a3 a4 a5 a6 a7 a8 a9 a10 a11 a12 a13 cI z_1)) (va_runV (As := [.int y1, .int y0]) (rest := []) ⟨hx, hb, hml, hown, hts⟩ (ctX5_setFlags l D cI a0 a1 a2 a3 a4 a5 a6 a7 a8 a9 a10 a11 a12 a13 u y1 y0 z_1 hz_1 H.size) (cwV 2 hts gX5_shift_X5_setFlags rfl rfl rfl (by decide +kernel) ⟨Nat.le_of_ble_eq_true rfl, Nat.le_of_ble_eq_true rfl⟩) (gPreV (ci := 4) (C := RX5) (T := TX5) (N := 27) hP hK hD [0, 1, 2, 3, 4, 5, 6, 7, 8, 9, 10, 11, 12, 13] (by decide) rfl 0 rfl rfl) rfl rfl hl.1 rfl (lv_room (Nat.le_of_ble_eq_true rfl)) dX5_shift_98 ⟨Nat.le_of_ble_eq_true rfl, Nat.le_of_ble_eq_true rfl⟩) hP hD hS hA [0, 1, 2, 3, 4, 5, 6, 7, 8, 9, 10, 11, 12, 13] [] [0, 1, 2, 3, 4, 5, 6, 7, 8, 9, 10, 11, 12, 13] rfl rfl (by decide) (by decide) rfl (by decide) (fun H locs hP hD hS => ?_)
  refine lv_aload_n hx hb dX5_shift_101 rfl (lv_at hl 0 rfl) ?_
  refine va_get (D := D) (ci := 4) (v := .ref a2) (C := RX5) (T := TX5) (N := 27) hx hb hts inX5_shift_X5 hown hK hP 0 rfl rfl 2 (by decide) (hts (.fieldLink RX5 13 "BlockCacheModel" "reg" "[I") (by decide +kernel)) (fun _ h9 => h9) rfl dX5_shift_102 ?_
  refine lv_iload_n hx hb dX5_shift_105 rfl (lv_at hl 1 rfl) ?_
  refine lv_iload hx hb dX5_shift_106 (lv_at hl 2 rfl) ?_
  obtain ⟨h_2, hf⟩ := pIn_out hf
  refine va_iast hx hb hK hP hD hS 2 0 rfl rfl h_2 dX5_shift_108 (fun H locs hP hD hS => ?_)
  obtain ⟨u_3, eu_3, hf⟩ := pLet_out hf
  replace hP : va_P D vwCl (wM a0 a1 a2 a3 a4 a5 a6 a7 a8 a9 a10 a11 a12 a13 cI u_3) H := by rw [eu_3]; exact hP
  replace hD : va_D A (wM a0 a1 a2 a3 a4 a5 a6 a7 a8 a9 a10 a11 a12 a13 cI u_3) := by rw [eu_3]; exact hD
  have hz := Option.some.inj hf
  subst hz
  exact gRetV hx hb hr hlocks hK hP hD hS rfl dX5_shift_109
set_option maxRecDepth 100000 in
set_option maxHeartbeats 4000000 in
theorem wkX5_shift_b78 {p : Program} {l : Launch} {e : Env} {s : State} {m : MethodId} {args : Array Value} {below : List Frame} {meth : Method} {c : Code} {D : va_G} {cI : ClassId} {A : Nat → Prop} {a0 a1 a2 a3 a4 a5 a6 a7 a8 a9 a10 a11 a12 a13 : Nat} (C : cxt p s m args meth c cX5_shift none 7 RX5 wsX5_shift D vwCl [(cI, .int)] A) : ∀ (z : TM) (u : TM) (x1 : Int32) (x3 : Int32) (x4 : Int32) (y0 : Int32) (H : Heap) (locs : List Loc) (ls : Array Slot), fX5_shift_b78 u x1 x3 x4 y0 = some z → va_P D vwCl (wM a0 a1 a2 a3 a4 a5 a6 a7 a8 a9 a10 a11 a12 a13 cI u) H → va_D A (wM a0 a1 a2 a3 a4 a5 a6 a7 a8 a9 a10 a11 a12 a13 cI u) → va_S A s.heap H locs → lv_has ls 7 [(0, .ref a0), (1, .int x1), (3, .int x3), (4, .int x4)] → W p l e rmX5_shift s m args below meth c H locs 0 0 (MQ below (oV D vwCl [(cI, .int)] A (wM a0 a1 a2 a3 a4 a5 a6 a7 a8 a9 a10 a11 a12 a13 cI z)) args s 0 0 A) (F0 m 78 ls [.int y0]) := by
  have C0 := C
  obtain ⟨hx, hb, hr, hml, hown, hts, hlocks, hK, hA⟩ := C
  intro z u x1 x3 x4 y0 H locs ls hf hP hD hS hl
  unfold fX5_shift_b78 at hf
  refine lv_istore (lv' := [(6, .int y0), (0, .ref a0), (1, .int x1), (3, .int x3), (4, .int x4)]) hx hb dX5_shift_78 hl (by decide) rfl (fun ls hl => ?_)
  refine lv_aload_n hx hb dX5_shift_80 rfl (lv_at hl 1 rfl) ?_
  refine lv_iload hx hb dX5_shift_81 (lv_at hl 0 rfl) ?_
  refine lv_iload hx hb dX5_shift_83 (lv_at hl 4 rfl) ?_
  refine lv_if_eq (tgt := 95) hx hb dX5_shift_85 (by decide) (fun c_1 => ?_) (fun c_1 => ?_)
  · replace hf := pI_t c_1 hf
    refine lv_iload_n hx hb dX5_shift_95 rfl (lv_at hl 3 rfl) ?_
    refine lv_iconst (v := 1) hx hb dX5_shift_96 (by decide) ?_
    refine lv_iand hx hb dX5_shift_97 ?_
    exact wkX5_shift_b98 C0 _ _ _ _ _ _ H locs ls hf hP hD hS (lv_sub hl [1, 2, 0] rfl)
  · replace hf := pI_f c_1 hf
    refine lv_iload_n hx hb dX5_shift_88 rfl (lv_at hl 3 rfl) ?_
    refine lv_bipush (v := 7) hx hb dX5_shift_89 (by decide) ?_
    refine lv_ishr hx hb dX5_shift_91 ?_
    refine lv_goto (tgt := 98) hx hb dX5_shift_92 (by decide) ?_
    exact wkX5_shift_b98 C0 _ _ _ _ _ _ H locs ls hf hP hD hS (lv_sub hl [1, 2, 0] rfl)
set_option maxRecDepth 100000 in
set_option maxHeartbeats 4000000 in
theorem wkX5_shift_b49 {p : Program} {l : Launch} {e : Env} {s : State} {m : MethodId} {args : Array Value} {below : List Frame} {meth : Method} {c : Code} {D : va_G} {cI : ClassId} {A : Nat → Prop} {a0 a1 a2 a3 a4 a5 a6 a7 a8 a9 a10 a11 a12 a13 : Nat} (C : cxt p s m args meth c cX5_shift none 7 RX5 wsX5_shift D vwCl [(cI, .int)] A) : ∀ (z : TM) (u : TM) (x1 : Int32) (x3 : Int32) (x4 : Int32) (y0 : Int32) (H : Heap) (locs : List Loc) (ls : Array Slot), fX5_shift_b49 u x1 x3 x4 y0 = some z → va_P D vwCl (wM a0 a1 a2 a3 a4 a5 a6 a7 a8 a9 a10 a11 a12 a13 cI u) H → va_D A (wM a0 a1 a2 a3 a4 a5 a6 a7 a8 a9 a10 a11 a12 a13 cI u) → va_S A s.heap H locs → lv_has ls 7 [(0, .ref a0), (1, .int x1), (3, .int x3), (4, .int x4)] → W p l e rmX5_shift s m args below meth c H locs 0 0 (MQ below (oV D vwCl [(cI, .int)] A (wM a0 a1 a2 a3 a4 a5 a6 a7 a8 a9 a10 a11 a12 a13 cI z)) args s 0 0 A) (F0 m 49 ls [.int y0]) := by
  have C0 := C
  obtain ⟨hx, hb, hr, hml, hown, hts, hlocks, hK, hA⟩ := C
  intro z u x1 x3 x4 y0 H locs ls hf hP hD hS hl
  unfold fX5_shift_b49 at hf
  refine lv_istore (lv' := [(5, .int y0), (0, .ref a0), (1, .int x1), (3, .int x3), (4, .int x4)]) hx hb dX5_shift_49 hl (by decide) rfl (fun ls hl => ?_)
  refine lv_iload hx hb dX5_shift_51 (lv_at hl 4 rfl) ?_
  refine lv_if_eq (tgt := 69) hx hb dX5_shift_53 (by decide) (fun c_1 => ?_) (fun c_1 => ?_)
  · replace hf := pI_t c_1 hf
    refine lv_iload_n hx hb dX5_shift_69 rfl (lv_at hl 3 rfl) ?_
    refine lv_iconst (v := 1) hx hb dX5_shift_70 (by decide) ?_
    refine lv_ishr hx hb dX5_shift_71 ?_
    refine lv_iload hx hb dX5_shift_72 (lv_at hl 0 rfl) ?_
    refine lv_bipush (v := 7) hx hb dX5_shift_74 (by decide) ?_
    refine lv_ishl hx hb dX5_shift_76 ?_
    refine lv_ior hx hb dX5_shift_77 ?_
    exact wkX5_shift_b78 C0 _ _ _ _ _ _ H locs ls hf hP hD hS (lv_sub hl [1, 2, 3, 4] rfl)
  · replace hf := pI_f c_1 hf
    refine lv_iload_n hx hb dX5_shift_56 rfl (lv_at hl 3 rfl) ?_
    refine lv_iconst (v := 1) hx hb dX5_shift_57 (by decide) ?_
    refine lv_ishl hx hb dX5_shift_58 ?_
    refine lv_sipush (v := 255) hx hb dX5_shift_59 (by decide) ?_
    refine lv_iand hx hb dX5_shift_62 ?_
    refine lv_iload hx hb dX5_shift_63 (lv_at hl 0 rfl) ?_
    refine lv_ior hx hb dX5_shift_65 ?_
    refine lv_goto (tgt := 78) hx hb dX5_shift_66 (by decide) ?_
    exact wkX5_shift_b78 C0 _ _ _ _ _ _ H locs ls hf hP hD hS (lv_sub hl [1, 2, 3, 4] rfl)
set_option maxRecDepth 100000 in
set_option maxHeartbeats 4000000 in
theorem wkX5_shift_b38 {p : Program} {l : Launch} {e : Env} {s : State} {m : MethodId} {args : Array Value} {below : List Frame} {meth : Method} {c : Code} {D : va_G} {cI : ClassId} {A : Nat → Prop} {a0 a1 a2 a3 a4 a5 a6 a7 a8 a9 a10 a11 a12 a13 : Nat} (C : cxt p s m args meth c cX5_shift none 7 RX5 wsX5_shift D vwCl [(cI, .int)] A) : ∀ (z : TM) (u : TM) (x1 : Int32) (x3 : Int32) (x4 : Int32) (H : Heap) (locs : List Loc) (ls : Array Slot), fX5_shift_b38 u x1 x3 x4 = some z → va_P D vwCl (wM a0 a1 a2 a3 a4 a5 a6 a7 a8 a9 a10 a11 a12 a13 cI u) H → va_D A (wM a0 a1 a2 a3 a4 a5 a6 a7 a8 a9 a10 a11 a12 a13 cI u) → va_S A s.heap H locs → lv_has ls 7 [(0, .ref a0), (1, .int x1), (3, .int x3), (4, .int x4)] → W p l e rmX5_shift s m args below meth c H locs 0 0 (MQ below (oV D vwCl [(cI, .int)] A (wM a0 a1 a2 a3 a4 a5 a6 a7 a8 a9 a10 a11 a12 a13 cI z)) args s 0 0 A) (F0 m 38 ls []) := by
  have C0 := C
  obtain ⟨hx, hb, hr, hml, hown, hts, hlocks, hK, hA⟩ := C
  intro z u x1 x3 x4 H locs ls hf hP hD hS hl
  unfold fX5_shift_b38 at hf
  refine lv_aload_n hx hb dX5_shift_38 rfl (lv_at hl 0 rfl) ?_
  refine va_get (D := D) (ci := 4) (v := .ref a2) (C := RX5) (T := TX5) (N := 27) hx hb hts inX5_shift_X5 hown hK hP 0 rfl rfl 2 (by decide) (hts (.fieldLink RX5 13 "BlockCacheModel" "reg" "[I") (by decide +kernel)) (fun _ h9 => h9) rfl dX5_shift_39 ?_
  refine lv_bipush (v := 6) hx hb dX5_shift_42 (by decide) ?_
  obtain ⟨h_1, hf⟩ := pIn_out hf
  refine va_iald hx hb hK hP 2 0 rfl rfl h_1 dX5_shift_44 ?_
  refine lv_goto (tgt := 49) hx hb dX5_shift_45 (by decide) ?_
  exact wkX5_shift_b49 C0 _ _ _ _ _ _ H locs ls hf hP hD hS (lv_sub hl [0, 1, 2, 3] rfl)
set_option maxRecDepth 100000 in
set_option maxHeartbeats 4000000 in
theorem wkX5_shift_b24 {p : Program} {l : Launch} {e : Env} {s : State} {m : MethodId} {args : Array Value} {below : List Frame} {meth : Method} {c : Code} {D : va_G} {cI : ClassId} {A : Nat → Prop} {a0 a1 a2 a3 a4 a5 a6 a7 a8 a9 a10 a11 a12 a13 : Nat} (C : cxt p s m args meth c cX5_shift none 7 RX5 wsX5_shift D vwCl [(cI, .int)] A) : ∀ (z : TM) (u : TM) (x1 : Int32) (x2 : Int32) (x3 : Int32) (y0 : Int32) (H : Heap) (locs : List Loc) (ls : Array Slot), fX5_shift_b24 u x1 x2 x3 y0 = some z → va_P D vwCl (wM a0 a1 a2 a3 a4 a5 a6 a7 a8 a9 a10 a11 a12 a13 cI u) H → va_D A (wM a0 a1 a2 a3 a4 a5 a6 a7 a8 a9 a10 a11 a12 a13 cI u) → va_S A s.heap H locs → lv_has ls 7 [(0, .ref a0), (1, .int x1), (2, .int x2), (3, .int x3)] → W p l e rmX5_shift s m args below meth c H locs 0 0 (MQ below (oV D vwCl [(cI, .int)] A (wM a0 a1 a2 a3 a4 a5 a6 a7 a8 a9 a10 a11 a12 a13 cI z)) args s 0 0 A) (F0 m 24 ls [.int y0]) := by
  have C0 := C
  obtain ⟨hx, hb, hr, hml, hown, hts, hlocks, hK, hA⟩ := C
  intro z u x1 x2 x3 y0 H locs ls hf hP hD hS hl
  unfold fX5_shift_b24 at hf
  refine lv_istore (lv' := [(4, .int y0), (0, .ref a0), (1, .int x1), (2, .int x2), (3, .int x3)]) hx hb dX5_shift_24 hl (by decide) rfl (fun ls hl => ?_)
  refine lv_iload_n hx hb dX5_shift_26 rfl (lv_at hl 3 rfl) ?_
  refine lv_bipush (v := 15) hx hb dX5_shift_27 (by decide) ?_
  refine lv_icmp_eq (tgt := 38) hx hb dX5_shift_29 (by decide) (fun c_1 => ?_) (fun c_1 => ?_)
  · replace hf := pI_t c_1 hf
    exact wkX5_shift_b38 C0 _ _ _ _ _ H locs ls hf hP hD hS (lv_sub hl [1, 2, 4, 0] rfl)
  · replace hf := pI_f c_1 hf
    refine lv_iload_n hx hb dX5_shift_32 rfl (lv_at hl 3 rfl) ?_
    refine lv_bipush (v := 16) hx hb dX5_shift_33 (by decide) ?_
    refine lv_icmp_ne (tgt := 48) hx hb dX5_shift_35 (by decide) (fun c_2 => ?_) (fun c_2 => ?_)
    · replace hf := pI_f c_2 hf
      refine lv_iconst (v := 0) hx hb dX5_shift_48 (by decide) ?_
      exact wkX5_shift_b49 C0 _ _ _ _ _ _ H locs ls hf hP hD hS (lv_sub hl [1, 2, 4, 0] rfl)
    · replace hf := pI_t c_2 hf
      exact wkX5_shift_b38 C0 _ _ _ _ _ H locs ls hf hP hD hS (lv_sub hl [1, 2, 4, 0] rfl)
set_option maxRecDepth 100000 in
set_option maxHeartbeats 4000000 in
theorem wkX5_shift_b19 {p : Program} {l : Launch} {e : Env} {s : State} {m : MethodId} {args : Array Value} {below : List Frame} {meth : Method} {c : Code} {D : va_G} {cI : ClassId} {A : Nat → Prop} {a0 a1 a2 a3 a4 a5 a6 a7 a8 a9 a10 a11 a12 a13 : Nat} (C : cxt p s m args meth c cX5_shift none 7 RX5 wsX5_shift D vwCl [(cI, .int)] A) : ∀ (z : TM) (u : TM) (x1 : Int32) (x2 : Int32) (x3 : Int32) (H : Heap) (locs : List Loc) (ls : Array Slot), fX5_shift_b19 u x1 x2 x3 = some z → va_P D vwCl (wM a0 a1 a2 a3 a4 a5 a6 a7 a8 a9 a10 a11 a12 a13 cI u) H → va_D A (wM a0 a1 a2 a3 a4 a5 a6 a7 a8 a9 a10 a11 a12 a13 cI u) → va_S A s.heap H locs → lv_has ls 7 [(0, .ref a0), (1, .int x1), (2, .int x2), (3, .int x3)] → W p l e rmX5_shift s m args below meth c H locs 0 0 (MQ below (oV D vwCl [(cI, .int)] A (wM a0 a1 a2 a3 a4 a5 a6 a7 a8 a9 a10 a11 a12 a13 cI z)) args s 0 0 A) (F0 m 19 ls []) := by
  have C0 := C
  obtain ⟨hx, hb, hr, hml, hown, hts, hlocks, hK, hA⟩ := C
  intro z u x1 x2 x3 H locs ls hf hP hD hS hl
  unfold fX5_shift_b19 at hf
  refine lv_iconst (v := 1) hx hb dX5_shift_19 (by decide) ?_
  refine lv_goto (tgt := 24) hx hb dX5_shift_20 (by decide) ?_
  exact wkX5_shift_b24 C0 _ _ _ _ _ _ H locs ls hf hP hD hS (lv_sub hl [0, 1, 2, 3] rfl)
set_option maxRecDepth 100000 in
set_option maxHeartbeats 4000000 in
theorem wkX5_shift {p : Program} {l : Launch} {e : Env} {s : State} {m : MethodId} {args : Array Value} {below : List Frame} {meth : Method} {c : Code} {D : va_G} {cI : ClassId} {A : Nat → Prop} {a0 a1 a2 a3 a4 a5 a6 a7 a8 a9 a10 a11 a12 a13 : Nat} (C : cxt p s m args meth c cX5_shift none 7 RX5 wsX5_shift D vwCl [(cI, .int)] A) : ∀ (z : TM) (u : TM) (x1 : Int32) (x2 : Int32) (H : Heap) (locs : List Loc) (ls : Array Slot), fX5_shift u x1 x2 = some z → va_P D vwCl (wM a0 a1 a2 a3 a4 a5 a6 a7 a8 a9 a10 a11 a12 a13 cI u) H → va_D A (wM a0 a1 a2 a3 a4 a5 a6 a7 a8 a9 a10 a11 a12 a13 cI u) → va_S A s.heap H locs → lv_has ls 7 [(0, .ref a0), (1, .int x1), (2, .int x2)] → W p l e rmX5_shift s m args below meth c H locs 0 0 (MQ below (oV D vwCl [(cI, .int)] A (wM a0 a1 a2 a3 a4 a5 a6 a7 a8 a9 a10 a11 a12 a13 cI z)) args s 0 0 A) (F0 m 0 ls []) := by
  have C0 := C
  obtain ⟨hx, hb, hr, hml, hown, hts, hlocks, hK, hA⟩ := C
  intro z u x1 x2 H locs ls hf hP hD hS hl
  unfold fX5_shift at hf
  refine lv_aload_n hx hb dX5_shift_0 rfl (lv_at hl 0 rfl) ?_
  refine va_get (D := D) (ci := 4) (v := .ref a2) (C := RX5) (T := TX5) (N := 27) hx hb hts inX5_shift_X5 hown hK hP 0 rfl rfl 2 (by decide) (hts (.fieldLink RX5 13 "BlockCacheModel" "reg" "[I") (by decide +kernel)) (fun _ h9 => h9) rfl dX5_shift_1 ?_
  refine lv_iload_n hx hb dX5_shift_4 rfl (lv_at hl 1 rfl) ?_
  obtain ⟨h_1, hf⟩ := pIn_out hf
  refine va_iald hx hb hK hP 2 0 rfl rfl h_1 dX5_shift_5 ?_
  obtain ⟨x_2, ex_2, hf⟩ := pLet_out hf
  refine gTop ex_2 ?_
  refine lv_istore_n (lv' := [(3, .int x_2), (0, .ref a0), (1, .int x1), (2, .int x2)]) hx hb dX5_shift_6 rfl hl (by decide) rfl (fun ls hl => ?_)
  refine lv_iload_n hx hb dX5_shift_7 rfl (lv_at hl 3 rfl) ?_
  refine lv_bipush (v := 13) hx hb dX5_shift_8 (by decide) ?_
  refine lv_icmp_eq (tgt := 19) hx hb dX5_shift_10 (by decide) (fun c_3 => ?_) (fun c_3 => ?_)
  · replace hf := pI_t c_3 hf
    exact wkX5_shift_b19 C0 _ _ _ _ _ H locs ls hf hP hD hS (lv_sub hl [1, 2, 3, 0] rfl)
  · replace hf := pI_f c_3 hf
    refine lv_iload_n hx hb dX5_shift_13 rfl (lv_at hl 3 rfl) ?_
    refine lv_bipush (v := 15) hx hb dX5_shift_14 (by decide) ?_
    refine lv_icmp_ne (tgt := 23) hx hb dX5_shift_16 (by decide) (fun c_4 => ?_) (fun c_4 => ?_)
    · replace hf := pI_f c_4 hf
      refine lv_iconst (v := 0) hx hb dX5_shift_23 (by decide) ?_
      exact wkX5_shift_b24 C0 _ _ _ _ _ _ H locs ls hf hP hD hS (lv_sub hl [1, 2, 3, 0] rfl)
    · replace hf := pI_t c_4 hf
      exact wkX5_shift_b19 C0 _ _ _ _ _ H locs ls hf hP hD hS (lv_sub hl [1, 2, 3, 0] rfl)
theorem ctX5_shift (l : Launch) (D : va_G) (cI : ClassId) (a0 a1 a2 a3 a4 a5 a6 a7 a8 a9 a10 a11 a12 a13 : Nat) (u : TM) (x1 : Int32) (x2 : Int32) (z : TM) (hz : fX5_shift u x1 x2 = some z) : CtV l yX5_shift wsX5_shift rmX5_shift D vwCl [(cI, .int)] [.ref a0, .int x1, .int x2] (wM a0 a1 a2 a3 a4 a5 a6 a7 a8 a9 a10 a11 a12 a13 cI u) (wM a0 a1 a2 a3 a4 a5 a6 a7 a8 a9 a10 a11 a12 a13 cI z) :=
  ctV_of (cc := cX5_shift) (maxL := 7) (ret := none) (by decide) rfl (Nat.le_of_ble_eq_true rfl) (fun p e s m below meth c A ls C hl hP hD hS => wkX5_shift C z _ _ _ s.heap [] ls hz hP hD hS hl)
abbrev rmX5_receive : Room := { frames := 0, cells := 0, slots := 0, locals := 0 }
theorem inX5_receive_X5 : ∀ w ∈ wsX50, w ∈ wsX5_receive := by decide +kernel
set_option maxRecDepth 100000 in
set_option maxHeartbeats 4000000 in
theorem wkX5_receive_b38 {p : Program} {l : Launch} {e : Env} {s : State} {m : MethodId} {args : Array Value} {below : List Frame} {meth : Method} {c : Code} {D : va_G} {cI : ClassId} {A : Nat → Prop} {a0 a1 a2 a3 a4 a5 a6 a7 a8 a9 a10 a11 a12 a13 : Nat} (C : cxt p s m args meth c cX5_receive none 2 RX5 wsX5_receive D vwCl [(cI, .int)] A) : ∀ (fu : Nat) (z : TM) (u : TM) (x1 : Int32) (H : Heap) (locs : List Loc) (ls : Array Slot), fX5_receive_b38 fu u x1 = some z → va_P D vwCl (wM a0 a1 a2 a3 a4 a5 a6 a7 a8 a9 a10 a11 a12 a13 cI u) H → va_D A (wM a0 a1 a2 a3 a4 a5 a6 a7 a8 a9 a10 a11 a12 a13 cI u) → va_S A s.heap H locs → lv_has ls 2 [(0, .ref a0), (1, .int x1)] → W p l e rmX5_receive s m args below meth c H locs 0 0 (MQ below (oV D vwCl [(cI, .int)] A (wM a0 a1 a2 a3 a4 a5 a6 a7 a8 a9 a10 a11 a12 a13 cI z)) args s 0 0 A) (F0 m 38 ls []) := by
  have C0 := C
  obtain ⟨hx, hb, hr, hml, hown, hts, hlocks, hK, hA⟩ := C
  intro fu
  induction fu with
  | zero =>
    intro z u x1 H locs ls hf hP hD hS hl
    cases hf
  | succ nn ih =>
    intro z u x1 H locs ls hf hP hD hS hl
    simp only [fX5_receive_b38] at hf
    refine lv_iload_n hx hb dX5_receive_38 rfl (lv_at hl 1 rfl) ?_
    refine lv_aload_n hx hb dX5_receive_39 rfl (lv_at hl 0 rfl) ?_
    refine va_get (D := D) (ci := 4) (v := .int (gM_inputMany u)) (C := RX5) (T := TX5) (N := 27) hx hb hts inX5_receive_X5 hown hK hP 0 rfl rfl 4 (by decide) (hts (.fieldLink RX5 159 "BlockCacheModel" "inputMany" "I") (by decide +kernel)) (fun _ h9 => h9) rfl dX5_receive_40 ?_
    refine lv_icmp_ge (tgt := 66) hx hb dX5_receive_43 (by decide) (fun c_1 => ?_) (fun c_1 => ?_)
    · replace hf := pI_t c_1 hf
      have hz := Option.some.inj hf
      subst hz
      exact gRetV hx hb hr hlocks hK hP hD hS rfl dX5_receive_66
    · replace hf := pI_f c_1 hf
      refine lv_aload_n hx hb dX5_receive_46 rfl (lv_at hl 0 rfl) ?_
      refine va_get (D := D) (ci := 4) (v := .ref a3) (C := RX5) (T := TX5) (N := 27) hx hb hts inX5_receive_X5 hown hK hP 0 rfl rfl 3 (by decide) (hts (.fieldLink RX5 16 "BlockCacheModel" "inputs" "[I") (by decide +kernel)) (fun _ h9 => h9) rfl dX5_receive_47 ?_
      refine lv_iload_n hx hb dX5_receive_50 rfl (lv_at hl 1 rfl) ?_
      refine lv_aload_n hx hb dX5_receive_51 rfl (lv_at hl 0 rfl) ?_
      refine va_get (D := D) (ci := 4) (v := .ref a3) (C := RX5) (T := TX5) (N := 27) hx hb hts inX5_receive_X5 hown hK hP 0 rfl rfl 3 (by decide) (hts (.fieldLink RX5 16 "BlockCacheModel" "inputs" "[I") (by decide +kernel)) (fun _ h9 => h9) rfl dX5_receive_52 ?_
      refine lv_iload_n hx hb dX5_receive_55 rfl (lv_at hl 1 rfl) ?_
      refine lv_iconst (v := 1) hx hb dX5_receive_56 (by decide) ?_
      refine lv_iadd hx hb dX5_receive_57 ?_
      obtain ⟨h_2, hf⟩ := pIn_out hf
      refine va_iald hx hb hK hP 3 0 rfl rfl h_2 dX5_receive_58 ?_
      obtain ⟨h_3, hf⟩ := pIn_out hf
      refine va_iast hx hb hK hP hD hS 3 0 rfl rfl h_3 dX5_receive_59 (fun H locs hP hD hS => ?_)
      obtain ⟨u_4, eu_4, hf⟩ := pLet_out hf
      replace hP : va_P D vwCl (wM a0 a1 a2 a3 a4 a5 a6 a7 a8 a9 a10 a11 a12 a13 cI u_4) H := by rw [eu_4]; exact hP
      replace hD : va_D A (wM a0 a1 a2 a3 a4 a5 a6 a7 a8 a9 a10 a11 a12 a13 cI u_4) := by rw [eu_4]; exact hD
      obtain ⟨x_5, ex_5, hf⟩ := pLet_out hf
      refine lv_iinc (v := x_5) (lv' := [(1, .int x_5), (0, .ref a0)]) hx hb dX5_receive_60 hl (k := 1) rfl (by rw [ex_5]; rfl) (by decide) rfl (fun ls hl => ?_)
      refine lv_goto (tgt := 38) hx hb dX5_receive_63 (by decide) ?_
      exact ih _ _ _ H locs ls hf hP hD hS (lv_sub hl [1, 0] rfl)
set_option maxRecDepth 100000 in
set_option maxHeartbeats 4000000 in
theorem wkX5_receive {p : Program} {l : Launch} {e : Env} {s : State} {m : MethodId} {args : Array Value} {below : List Frame} {meth : Method} {c : Code} {D : va_G} {cI : ClassId} {A : Nat → Prop} {a0 a1 a2 a3 a4 a5 a6 a7 a8 a9 a10 a11 a12 a13 : Nat} (C : cxt p s m args meth c cX5_receive none 2 RX5 wsX5_receive D vwCl [(cI, .int)] A) : ∀ (z : TM) (u : TM) (H : Heap) (locs : List Loc) (ls : Array Slot), fX5_receive u = some z → va_P D vwCl (wM a0 a1 a2 a3 a4 a5 a6 a7 a8 a9 a10 a11 a12 a13 cI u) H → va_D A (wM a0 a1 a2 a3 a4 a5 a6 a7 a8 a9 a10 a11 a12 a13 cI u) → va_S A s.heap H locs → lv_has ls 2 [(0, .ref a0)] → W p l e rmX5_receive s m args below meth c H locs 0 0 (MQ below (oV D vwCl [(cI, .int)] A (wM a0 a1 a2 a3 a4 a5 a6 a7 a8 a9 a10 a11 a12 a13 cI z)) args s 0 0 A) (F0 m 0 ls []) := by
  have C0 := C
  obtain ⟨hx, hb, hr, hml, hown, hts, hlocks, hK, hA⟩ := C
  intro z u H locs ls hf hP hD hS hl
  unfold fX5_receive at hf
  refine lv_aload_n hx hb dX5_receive_0 rfl (lv_at hl 0 rfl) ?_
  refine va_get (D := D) (ci := 4) (v := .ref a2) (C := RX5) (T := TX5) (N := 27) hx hb hts inX5_receive_X5 hown hK hP 0 rfl rfl 2 (by decide) (hts (.fieldLink RX5 13 "BlockCacheModel" "reg" "[I") (by decide +kernel)) (fun _ h9 => h9) rfl dX5_receive_1 ?_
  refine lv_iconst (v := 0) hx hb dX5_receive_4 (by decide) ?_
  refine lv_iconst (v := 0) hx hb dX5_receive_5 (by decide) ?_
  obtain ⟨h_1, hf⟩ := pIn_out hf
  refine va_iast hx hb hK hP hD hS 2 0 rfl rfl h_1 dX5_receive_6 (fun H locs hP hD hS => ?_)
  obtain ⟨u_2, eu_2, hf⟩ := pLet_out hf
  replace hP : va_P D vwCl (wM a0 a1 a2 a3 a4 a5 a6 a7 a8 a9 a10 a11 a12 a13 cI u_2) H := by rw [eu_2]; exact hP
  replace hD : va_D A (wM a0 a1 a2 a3 a4 a5 a6 a7 a8 a9 a10 a11 a12 a13 cI u_2) := by rw [eu_2]; exact hD
  refine lv_aload_n hx hb dX5_receive_7 rfl (lv_at hl 0 rfl) ?_
  refine va_get (D := D) (ci := 4) (v := .int (gM_inputMany u_2)) (C := RX5) (T := TX5) (N := 27) hx hb hts inX5_receive_X5 hown hK hP 0 rfl rfl 4 (by decide) (hts (.fieldLink RX5 159 "BlockCacheModel" "inputMany" "I") (by decide +kernel)) (fun _ h9 => h9) rfl dX5_receive_8 ?_
  refine lv_if_le (tgt := 66) hx hb dX5_receive_11 (by decide) (fun c_3 => ?_) (fun c_3 => ?_)
  · replace hf := pI_t c_3 hf
    have hz := Option.some.inj hf
    subst hz
    exact gRetV hx hb hr hlocks hK hP hD hS rfl dX5_receive_66
  · replace hf := pI_f c_3 hf
    refine lv_aload_n hx hb dX5_receive_14 rfl (lv_at hl 0 rfl) ?_
    refine va_get (D := D) (ci := 4) (v := .ref a2) (C := RX5) (T := TX5) (N := 27) hx hb hts inX5_receive_X5 hown hK hP 0 rfl rfl 2 (by decide) (hts (.fieldLink RX5 13 "BlockCacheModel" "reg" "[I") (by decide +kernel)) (fun _ h9 => h9) rfl dX5_receive_15 ?_
    refine lv_iconst (v := 0) hx hb dX5_receive_18 (by decide) ?_
    refine lv_aload_n hx hb dX5_receive_19 rfl (lv_at hl 0 rfl) ?_
    refine va_get (D := D) (ci := 4) (v := .ref a3) (C := RX5) (T := TX5) (N := 27) hx hb hts inX5_receive_X5 hown hK hP 0 rfl rfl 3 (by decide) (hts (.fieldLink RX5 16 "BlockCacheModel" "inputs" "[I") (by decide +kernel)) (fun _ h9 => h9) rfl dX5_receive_20 ?_
    refine lv_iconst (v := 0) hx hb dX5_receive_23 (by decide) ?_
    obtain ⟨h_4, hf⟩ := pIn_out hf
    refine va_iald hx hb hK hP 3 0 rfl rfl h_4 dX5_receive_24 ?_
    obtain ⟨h_5, hf⟩ := pIn_out hf
    refine va_iast hx hb hK hP hD hS 2 0 rfl rfl h_5 dX5_receive_25 (fun H locs hP hD hS => ?_)
    obtain ⟨u_6, eu_6, hf⟩ := pLet_out hf
    replace hP : va_P D vwCl (wM a0 a1 a2 a3 a4 a5 a6 a7 a8 a9 a10 a11 a12 a13 cI u_6) H := by rw [eu_6]; exact hP
    replace hD : va_D A (wM a0 a1 a2 a3 a4 a5 a6 a7 a8 a9 a10 a11 a12 a13 cI u_6) := by rw [eu_6]; exact hD
    refine lv_aload_n hx hb dX5_receive_26 rfl (lv_at hl 0 rfl) ?_
    refine lv_dup hx hb dX5_receive_27 rfl ?_
    refine va_get (D := D) (ci := 4) (v := .int (gM_inputMany u_6)) (C := RX5) (T := TX5) (N := 27) hx hb hts inX5_receive_X5 hown hK hP 0 rfl rfl 4 (by decide) (hts (.fieldLink RX5 159 "BlockCacheModel" "inputMany" "I") (by decide +kernel)) (fun _ h9 => h9) rfl dX5_receive_28 ?_
    refine lv_iconst (v := 1) hx hb dX5_receive_31 (by decide) ?_
    refine lv_isub hx hb dX5_receive_32 ?_
    refine va_put (D := D) (ci := 4) (v := .int ((gM_inputMany u_6) - 1)) (ty := .int) (C := RX5) (T := TX5) (N := 27) hx hb hts inX5_receive_X5 tyX5 tyX5_ok nmX5 hown hK hP hD hS 0 rfl rfl 4 (by decide) (hts (.fieldLink RX5 159 "BlockCacheModel" "inputMany" "I") (by decide +kernel)) (fun _ h9 => h9) rfl (by decide +kernel) rfl rfl (Nat.le_of_ble_eq_true rfl) dX5_receive_33 (fun H locs hP hD hS => ?_)
    obtain ⟨u_7, eu_7, hf⟩ := pLet_out hf
    replace hP : va_P D vwCl (wM a0 a1 a2 a3 a4 a5 a6 a7 a8 a9 a10 a11 a12 a13 cI u_7) H := by rw [eu_7]; exact hP
    replace hD : va_D A (wM a0 a1 a2 a3 a4 a5 a6 a7 a8 a9 a10 a11 a12 a13 cI u_7) := by rw [eu_7]; exact hD
    refine lv_iconst (v := 0) hx hb dX5_receive_36 (by decide) ?_
    refine lv_istore_n (lv' := [(1, .int 0), (0, .ref a0)]) hx hb dX5_receive_37 rfl hl (by decide) rfl (fun ls hl => ?_)
    exact wkX5_receive_b38 C0 fuelX5_receive_38 _ _ _ H locs ls hf hP hD hS (lv_sub hl [1, 0] rfl)
theorem ctX5_receive (l : Launch) (D : va_G) (cI : ClassId) (a0 a1 a2 a3 a4 a5 a6 a7 a8 a9 a10 a11 a12 a13 : Nat) (u : TM) (z : TM) (hz : fX5_receive u = some z) : CtV l yX5_receive wsX5_receive rmX5_receive D vwCl [(cI, .int)] [.ref a0] (wM a0 a1 a2 a3 a4 a5 a6 a7 a8 a9 a10 a11 a12 a13 cI u) (wM a0 a1 a2 a3 a4 a5 a6 a7 a8 a9 a10 a11 a12 a13 cI z) :=
  ctV_of (cc := cX5_receive) (maxL := 2) (ret := none) (by decide) rfl (Nat.le_of_ble_eq_true rfl) (fun p e s m below meth c A ls C hl hP hD hS => wkX5_receive C z _ s.heap [] ls hz hP hD hS hl)

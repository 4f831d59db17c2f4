abbrev rmX4_isByte : Room := { frames := 0, cells := 0, slots := 0, locals := 0 }
set_option maxRecDepth 100000 in
set_option maxHeartbeats 4000000 in
theorem wkX4_isByte {p : Program} {l : Launch} {e : Env} {s : State} {m : MethodId} {args : Array Value} {below : List Frame} {meth : Method} {c : Code} {D : va_G} {cI : ClassId} {A : Nat → Prop} (C : cxt p s m args meth c cX4_isByte (some .boolean) 1 RX4 wsX4_isByte D vwCl [(cI, .int)] A) : ∀ (z : Int32) (x0 : Int32) (H : Heap) (locs : List Loc) (ls : Array Slot), fX4_isByte x0 = z → va_P D vwCl ([] : va_W) H → va_D A ([] : va_W) → va_S A s.heap H locs → lv_has ls 1 [(0, .int x0)] → W p l e rmX4_isByte s m args below meth c H locs 0 0 (MQ below (oI D vwCl [(cI, .int)] A z ([] : va_W)) args s 0 0 A) (F0 m 0 ls []) := by
  have C0 := C
  obtain ⟨hx, hb, hr, hml, hown, hts, hlocks, hK, hA⟩ := C
  intro z x0 H locs ls hf hP hD hS hl
  unfold fX4_isByte at hf
  refine lv_iload_n hx hb dX4_isByte_0 rfl (lv_at hl 0 rfl) ?_
  refine lv_if_lt (tgt := 15) hx hb dX4_isByte_1 (by decide) (fun c_1 => ?_) (fun c_1 => ?_)
  · replace hf := pI_t c_1 hf
    refine lv_iconst (v := 0) hx hb dX4_isByte_15 (by decide) ?_
    have hz := hf
    subst hz
    exact gRetZ hx hb hr hlocks hK hP hD hS (by decide) rfl rfl dX4_isByte_16
  · replace hf := pI_f c_1 hf
    refine lv_iload_n hx hb dX4_isByte_4 rfl (lv_at hl 0 rfl) ?_
    refine lv_sipush (v := 255) hx hb dX4_isByte_5 (by decide) ?_
    refine lv_icmp_gt (tgt := 15) hx hb dX4_isByte_8 (by decide) (fun c_2 => ?_) (fun c_2 => ?_)
    · replace hf := pI_t c_2 hf
      refine lv_iconst (v := 0) hx hb dX4_isByte_15 (by decide) ?_
      have hz := hf
      subst hz
      exact gRetZ hx hb hr hlocks hK hP hD hS (by decide) rfl rfl dX4_isByte_16
    · replace hf := pI_f c_2 hf
      refine lv_iconst (v := 1) hx hb dX4_isByte_11 (by decide) ?_
      refine lv_goto (tgt := 16) hx hb dX4_isByte_12 (by decide) ?_
      have hz := hf
      subst hz
      exact gRetZ hx hb hr hlocks hK hP hD hS (by decide) rfl rfl dX4_isByte_16
theorem ctX4_isByte (l : Launch) (D : va_G) (cI : ClassId) (x0 : Int32) (z : Int32) (hz : fX4_isByte x0 = z) : CtI l yX4_isByte wsX4_isByte rmX4_isByte D vwCl [(cI, .int)] [.int x0] ([] : va_W) z ([] : va_W) :=
  ctI_of (cc := cX4_isByte) (maxL := 1) (ret := (some .boolean)) (by decide) rfl (Nat.le_of_ble_eq_true rfl) (fun p e s m below meth c A ls C hl hP hD hS => wkX4_isByte C z _ s.heap [] ls hz hP hD hS hl)
abbrev rmX4_poke : Room := { frames := 6, cells := 1, slots := 6, locals := 81 }
theorem inX4_poke_X2 : ∀ w ∈ wsX20, w ∈ wsX4_poke := by decide +kernel
theorem inX4_poke_X4 : ∀ w ∈ wsX40, w ∈ wsX4_poke := by decide +kernel
theorem xaX4_poke_1 : ∀ w ∈ (vx_at0 RX4 45 "java/lang/IllegalArgumentException" ["java/lang/RuntimeException", "java/lang/Exception"]).filter goodWord, w ∈ wsX4_poke := by decide +kernel
set_option maxRecDepth 100000 in
set_option maxHeartbeats 4000000 in
theorem wkX4_poke_b17 {p : Program} {l : Launch} {e : Env} {s : State} {m : MethodId} {args : Array Value} {below : List Frame} {meth : Method} {c : Code} {D : va_G} {cI : ClassId} {A : Nat → Prop} {a0 a1 a2 a3 a4 a5 a6 a7 a8 a9 a10 a11 a12 a13 a14 a15 a16 : Nat} (C : cxt p s m args meth c cX4_poke none 6 RX4 wsX4_poke D vwCl [(cI, .int)] A) (CX : cxX l s c A) : ∀ (z : Int32 × TB) (u : TB) (H : Heap) (locs : List Loc) (ls : Array Slot), fX4_poke_b17 u = some z → va_P D vwCl (wB a0 a1 a2 a3 a4 a5 a6 a7 a8 a9 a10 a11 a12 a13 a14 a15 a16 cI u) H → va_D A (wB a0 a1 a2 a3 a4 a5 a6 a7 a8 a9 a10 a11 a12 a13 a14 a15 a16 cI u) → va_S A s.heap H locs → lv_has ls 6 [] → W p l e rmX4_poke s m args below meth c H locs 0 0 (vx_MQ below (oVk D vwCl [(cI, .int)] A z.1 (wB a0 a1 a2 a3 a4 a5 a6 a7 a8 a9 a10 a11 a12 a13 a14 a15 a16 cI z.2)) (oX D vwCl [(cI, .int)] A z.1 (wB a0 a1 a2 a3 a4 a5 a6 a7 a8 a9 a10 a11 a12 a13 a14 a15 a16 cI z.2)) args s 1 6 A) (F0 m 17 ls []) := by
  have C0 := C
  obtain ⟨hx, hb, hr, hml, hown, hts, hlocks, hK, hA⟩ := C
  intro z u H locs ls hf hP hD hS hl
  unfold fX4_poke_b17 at hf
  have hz := Option.some.inj hf
  subst hz
  exact gThrow (cls := "java/lang/IllegalArgumentException") (names := ["java/lang/RuntimeException", "java/lang/Exception"]) (ik := 43) (ic := 45) CX hx hb (hl.1.trans hml.symm) hlocks hown hts hK hP hD hS (by decide) (by decide) (by decide +kernel) (by decide +kernel) xaX4_poke_1 xn45 xg45 dX4_poke_17 dX4_poke_20 dX4_poke_21 dX4_poke_24 (by decide) (by decide) (by decide) (by decide) rfl rfl
set_option maxRecDepth 100000 in
set_option maxHeartbeats 4000000 in
theorem wkX4_poke_b28 {p : Program} {l : Launch} {e : Env} {s : State} {m : MethodId} {args : Array Value} {below : List Frame} {meth : Method} {c : Code} {D : va_G} {cI : ClassId} {A : Nat → Prop} {a0 a1 a2 a3 a4 a5 a6 a7 a8 a9 a10 a11 a12 a13 a14 a15 a16 : Nat} (C : cxt p s m args meth c cX4_poke none 6 RX4 wsX4_poke D vwCl [(cI, .int)] A) (CX : cxX l s c A) : ∀ (fu : Nat) (z : Int32 × TB) (u : TB) (x1 : Int32) (x2 : Int32) (x3 : Int32) (x4 : Int32) (H : Heap) (locs : List Loc) (ls : Array Slot), fX4_poke_b28 fu u x1 x2 x3 x4 = some z → va_P D vwCl (wB a0 a1 a2 a3 a4 a5 a6 a7 a8 a9 a10 a11 a12 a13 a14 a15 a16 cI u) H → va_D A (wB a0 a1 a2 a3 a4 a5 a6 a7 a8 a9 a10 a11 a12 a13 a14 a15 a16 cI u) → va_S A s.heap H locs → lv_has ls 6 [(0, .ref a0), (1, .int x1), (2, .int x2), (3, .int x3), (4, .int x4)] → W p l e rmX4_poke s m args below meth c H locs 0 0 (vx_MQ below (oVk D vwCl [(cI, .int)] A z.1 (wB a0 a1 a2 a3 a4 a5 a6 a7 a8 a9 a10 a11 a12 a13 a14 a15 a16 cI z.2)) (oX D vwCl [(cI, .int)] A z.1 (wB a0 a1 a2 a3 a4 a5 a6 a7 a8 a9 a10 a11 a12 a13 a14 a15 a16 cI z.2)) args s 1 6 A) (F0 m 28 ls []) := by
  have C0 := C
  obtain ⟨hx, hb, hr, hml, hown, hts, hlocks, hK, hA⟩ := C
  intro fu
  induction fu with
  | zero =>
    intro z u x1 x2 x3 x4 H locs ls hf hP hD hS hl
    cases hf
  | succ nn ih =>
    intro z u x1 x2 x3 x4 H locs ls hf hP hD hS hl
    simp only [fX4_poke_b28] at hf
    refine lv_iload hx hb dX4_poke_28 (lv_at hl 4 rfl) ?_
    refine lv_iload_n hx hb dX4_poke_30 rfl (lv_at hl 3 rfl) ?_
    refine lv_icmp_ge (tgt := 87) hx hb dX4_poke_31 (by decide) (fun c_1 => ?_) (fun c_1 => ?_)
    · replace hf := pI_t c_1 hf
      have hz := Option.some.inj hf
      subst hz
      exact gRetVk hx hb hr hlocks hK hP hD hS rfl rfl dX4_poke_87 (by decide) (by decide)
    · replace hf := pI_f c_1 hf
      refine lv_iload_n hx hb dX4_poke_34 rfl (lv_at hl 1 rfl) ?_
      refine lv_iload hx hb dX4_poke_35 (lv_at hl 4 rfl) ?_
      refine lv_iadd hx hb dX4_poke_37 ?_
      refine lv_sipush (v := 255) hx hb dX4_poke_38 (by decide) ?_
      refine lv_iand hx hb dX4_poke_41 ?_
      obtain ⟨x_2, ex_2, hf⟩ := pLet_out hf
      refine gTop ex_2 ?_
      refine lv_istore (lv' := [(5, .int x_2), (0, .ref a0), (1, .int x1), (2, .int x2), (3, .int x3), (4, .int x4)]) hx hb dX4_poke_42 hl (by decide) rfl (fun ls hl => ?_)
      refine lv_aload_n hx hb dX4_poke_44 rfl (lv_at hl 1 rfl) ?_
      refine va_get (D := D) (ci := 3) (v := .ref a1) (C := RX4) (T := TX4) (N := 11) hx hb hts inX4_poke_X4 hown hK hP 0 rfl rfl 0 (by decide) (hts (.fieldLink RX4 10 "BlockCache" "guest" "LBlockCache$Guest;") (by decide +kernel)) (fun _ h9 => h9) rfl dX4_poke_45 ?_
      refine va_get (D := D) (ci := 1) (v := .ref a3) (C := RX2) (T := TX2) (N := 6) hx hb hts inX4_poke_X2 hown hK hP 1 rfl rfl 1 (by decide) (hts (.fieldLink RX4 46 "BlockCache$Guest" "memory" "[I") (by decide +kernel)) (fun _ h9 => h9) rfl dX4_poke_48 ?_
      refine lv_iload hx hb dX4_poke_51 (lv_at hl 0 rfl) ?_
      refine lv_iload_n hx hb dX4_poke_53 rfl (lv_at hl 3 rfl) ?_
      refine lv_bipush (v := 24) hx hb dX4_poke_54 (by decide) ?_
      refine lv_bipush (v := 8) hx hb dX4_poke_56 (by decide) ?_
      refine lv_iload hx hb dX4_poke_58 (lv_at hl 5 rfl) ?_
      refine lv_imul hx hb dX4_poke_60 ?_
      refine lv_isub hx hb dX4_poke_61 ?_
      refine lv_iushr (v := ((x2 : Int32).toUInt32 >>> (((24 - (8 * x4)) : Int32).toUInt32 &&& Int32.toUInt32 31)).toInt32) hx hb dX4_poke_62 rfl ?_
      refine lv_sipush (v := 255) hx hb dX4_poke_63 (by decide) ?_
      refine lv_iand hx hb dX4_poke_66 ?_
      obtain ⟨h_3, hf⟩ := pIn_out hf
      refine va_iast hx hb hK hP hD hS 3 0 rfl rfl h_3 dX4_poke_67 (fun H locs hP hD hS => ?_)
      obtain ⟨u_4, eu_4, hf⟩ := pLet_out hf
      replace hP : va_P D vwCl (wB a0 a1 a2 a3 a4 a5 a6 a7 a8 a9 a10 a11 a12 a13 a14 a15 a16 cI u_4) H := by rw [eu_4]; exact hP
      replace hD : va_D A (wB a0 a1 a2 a3 a4 a5 a6 a7 a8 a9 a10 a11 a12 a13 a14 a15 a16 cI u_4) := by rw [eu_4]; exact hD
      refine lv_aload_n hx hb dX4_poke_68 rfl (lv_at hl 1 rfl) ?_
      refine va_get (D := D) (ci := 3) (v := .ref a7) (C := RX4) (T := TX4) (N := 11) hx hb hts inX4_poke_X4 hown hK hP 0 rfl rfl 1 (by decide) (hts (.fieldLink RX4 19 "BlockCache" "cache" "LBlockCache$Cache;") (by decide +kernel)) (fun _ h9 => h9) rfl dX4_poke_69 ?_
      refine lv_iload hx hb dX4_poke_72 (lv_at hl 0 rfl) ?_
      refine lv_bipush (v := 32) hx hb dX4_poke_74 (by decide) ?_
      refine lv_idiv hx hb dX4_poke_76 (by decide) ?_
      obtain ⟨z_5, hz_5, hf⟩ := pB_out hf
      obtain ⟨u_6, eu_6, hf⟩ := pLet_out hf
      refine gI (w' := (wB a0 a1 a2 a3 a4 a5 a6 a7 a8 a9 a10 a11 a12 a13 a14 a15 a16 cI u_6)) (va_runV (As := [.int (x_2 / 32)]) (rest := []) ⟨hx, hb, hml, hown, hts⟩ (ctX0_dropPage l D cI a7 a8 a9 a10 a11 a12 a13 a14 (gB_cache u_4) (x_2 / 32) z_5 hz_5 H.size) (cwV 1 hts gX4_poke_X0_dropPage rfl rfl rfl (by decide +kernel) ⟨Nat.le_of_ble_eq_true rfl, Nat.le_of_ble_eq_true rfl⟩) (gPreV (ci := 0) (C := RX0) (T := TX0) (N := 13) hP hK hD [7, 8, 9, 10, 11, 12, 13, 14] (by decide) rfl 7 rfl rfl) rfl rfl hl.1 rfl (lv_room (Nat.le_of_ble_eq_true rfl)) dX4_poke_77 ⟨Nat.le_of_ble_eq_true rfl, Nat.le_of_ble_eq_true rfl⟩) hP hD hS hA [7, 8, 9, 10, 11, 12, 13, 14] [0, 1, 2, 3, 4, 5, 6, 15, 16] [0, 1, 2, 3, 4, 5, 6, 9, 10, 11, 12, 13, 14, 15, 16, 7, 8] rfl rfl (by decide) (by decide) (by rw [eu_6]; rfl) (by decide) (fun H locs hP hD hS => ?_)
      refine lv_pop hx hb dX4_poke_80 rfl ?_
      obtain ⟨x_7, ex_7, hf⟩ := pLet_out hf
      refine lv_iinc (v := x_7) (lv' := [(4, .int x_7), (5, .int x_2), (0, .ref a0), (1, .int x1), (2, .int x2), (3, .int x3)]) hx hb dX4_poke_81 hl (k := 5) rfl (by rw [ex_7]; rfl) (by decide) rfl (fun ls hl => ?_)
      refine lv_goto (tgt := 28) hx hb dX4_poke_84 (by decide) ?_
      exact ih _ _ _ _ _ _ H locs ls hf hP hD hS (lv_sub hl [2, 3, 4, 5, 0] rfl)
set_option maxRecDepth 100000 in
set_option maxHeartbeats 4000000 in
theorem wkX4_poke {p : Program} {l : Launch} {e : Env} {s : State} {m : MethodId} {args : Array Value} {below : List Frame} {meth : Method} {c : Code} {D : va_G} {cI : ClassId} {A : Nat → Prop} {a0 a1 a2 a3 a4 a5 a6 a7 a8 a9 a10 a11 a12 a13 a14 a15 a16 : Nat} (C : cxt p s m args meth c cX4_poke none 6 RX4 wsX4_poke D vwCl [(cI, .int)] A) (CX : cxX l s c A) : ∀ (z : Int32 × TB) (u : TB) (x1 : Int32) (x2 : Int32) (x3 : Int32) (H : Heap) (locs : List Loc) (ls : Array Slot), fX4_poke u x1 x2 x3 = some z → va_P D vwCl (wB a0 a1 a2 a3 a4 a5 a6 a7 a8 a9 a10 a11 a12 a13 a14 a15 a16 cI u) H → va_D A (wB a0 a1 a2 a3 a4 a5 a6 a7 a8 a9 a10 a11 a12 a13 a14 a15 a16 cI u) → va_S A s.heap H locs → lv_has ls 6 [(0, .ref a0), (1, .int x1), (2, .int x2), (3, .int x3)] → W p l e rmX4_poke s m args below meth c H locs 0 0 (vx_MQ below (oVk D vwCl [(cI, .int)] A z.1 (wB a0 a1 a2 a3 a4 a5 a6 a7 a8 a9 a10 a11 a12 a13 a14 a15 a16 cI z.2)) (oX D vwCl [(cI, .int)] A z.1 (wB a0 a1 a2 a3 a4 a5 a6 a7 a8 a9 a10 a11 a12 a13 a14 a15 a16 cI z.2)) args s 1 6 A) (F0 m 0 ls []) := by
  have C0 := C
  obtain ⟨hx, hb, hr, hml, hown, hts, hlocks, hK, hA⟩ := C
  intro z u x1 x2 x3 H locs ls hf hP hD hS hl
  unfold fX4_poke at hf
  refine lv_iload_n hx hb dX4_poke_0 rfl (lv_at hl 1 rfl) ?_
  obtain ⟨z_1, hz_1, hf⟩ := pLet_out hf
  refine gI0 (va_runS (As := [.int x1]) (rest := []) ⟨hx, hb, hml, hown, hts⟩ (ctX4_isByte l D cI x1 z_1 hz_1.symm H.size) (va_cwS 1 hts gX4_poke_X4_isByte rfl rfl rfl (by decide +kernel) ⟨Nat.le_of_ble_eq_true rfl, Nat.le_of_ble_eq_true rfl⟩) (gPreS hP hK hD [] (by decide) rfl) rfl rfl hl.1 rfl (lv_room (Nat.le_of_ble_eq_true rfl)) dX4_poke_1 ⟨Nat.le_of_ble_eq_true rfl, Nat.le_of_ble_eq_true rfl⟩) hP hD hS hA (fun H locs hP hS => ?_)
  refine lv_if_eq (tgt := 17) hx hb dX4_poke_4 (by decide) (fun c_2 => ?_) (fun c_2 => ?_)
  · replace hf := pI_t c_2 hf
    exact wkX4_poke_b17 C0 CX _ _ H locs ls hf hP hD hS (lv_sub hl [] rfl)
  · replace hf := pI_f c_2 hf
    refine lv_iload_n hx hb dX4_poke_7 rfl (lv_at hl 3 rfl) ?_
    refine lv_iconst (v := 1) hx hb dX4_poke_8 (by decide) ?_
    refine lv_icmp_lt (tgt := 17) hx hb dX4_poke_9 (by decide) (fun c_3 => ?_) (fun c_3 => ?_)
    · replace hf := pI_t c_3 hf
      exact wkX4_poke_b17 C0 CX _ _ H locs ls hf hP hD hS (lv_sub hl [] rfl)
    · replace hf := pI_f c_3 hf
      refine lv_iload_n hx hb dX4_poke_12 rfl (lv_at hl 3 rfl) ?_
      refine lv_iconst (v := 4) hx hb dX4_poke_13 (by decide) ?_
      refine lv_icmp_le (tgt := 25) hx hb dX4_poke_14 (by decide) (fun c_4 => ?_) (fun c_4 => ?_)
      · replace hf := pI_t c_4 hf
        refine lv_iconst (v := 0) hx hb dX4_poke_25 (by decide) ?_
        refine lv_istore (lv' := [(4, .int 0), (0, .ref a0), (1, .int x1), (2, .int x2), (3, .int x3)]) hx hb dX4_poke_26 hl (by decide) rfl (fun ls hl => ?_)
        exact wkX4_poke_b28 C0 CX fuelX4_poke_28 _ _ _ _ _ _ H locs ls hf hP hD hS (lv_sub hl [1, 2, 3, 4, 0] rfl)
      · replace hf := pI_f c_4 hf
        exact wkX4_poke_b17 C0 CX _ _ H locs ls hf hP hD hS (lv_sub hl [] rfl)
theorem ctX4_poke (l : Launch) (htr : l.stackTraces = false) (D : va_G) (cI : ClassId) (a0 a1 a2 a3 a4 a5 a6 a7 a8 a9 a10 a11 a12 a13 a14 a15 a16 : Nat) (u : TB) (x1 : Int32) (x2 : Int32) (x3 : Int32) (z : Int32 × TB) (hz : fX4_poke u x1 x2 x3 = some z) : CtXV l yX4_poke wsX4_poke rmX4_poke D vwCl [(cI, .int)] [.ref a0, .int x1, .int x2, .int x3] (wB a0 a1 a2 a3 a4 a5 a6 a7 a8 a9 a10 a11 a12 a13 a14 a15 a16 cI u) z.1 (wB a0 a1 a2 a3 a4 a5 a6 a7 a8 a9 a10 a11 a12 a13 a14 a15 a16 cI z.2) :=
  ctXV_of (cc := cX4_poke) (maxL := 6) (ret := none) htr (by decide) rfl (Nat.le_of_ble_eq_true rfl) (fun p e s m below meth c A ls C CX hl hP hD hS => wkX4_poke C CX z _ _ _ _ s.heap [] ls hz hP hD hS hl)
abbrev rmX4_peek : Room := { frames := 6, cells := 1, slots := 6, locals := 81 }
theorem inX4_peek_X2 : ∀ w ∈ wsX20, w ∈ wsX4_peek := by decide +kernel
theorem inX4_peek_X4 : ∀ w ∈ wsX40, w ∈ wsX4_peek := by decide +kernel
theorem xaX4_peek_1 : ∀ w ∈ (vx_at0 RX4 45 "java/lang/IllegalArgumentException" ["java/lang/RuntimeException", "java/lang/Exception"]).filter goodWord, w ∈ wsX4_peek := by decide +kernel
set_option maxRecDepth 100000 in
set_option maxHeartbeats 4000000 in
theorem wkX4_peek {p : Program} {l : Launch} {e : Env} {s : State} {m : MethodId} {args : Array Value} {below : List Frame} {meth : Method} {c : Code} {D : va_G} {cI : ClassId} {A : Nat → Prop} {a0 a1 a2 a3 a4 a5 a6 a7 a8 a9 a10 a11 a12 a13 a14 a15 a16 : Nat} (C : cxt p s m args meth c cX4_peek (some .int) 2 RX4 wsX4_peek D vwCl [(cI, .int)] A) (CX : cxX l s c A) : ∀ (z : Int32 × Int32) (u : TB) (x1 : Int32) (H : Heap) (locs : List Loc) (ls : Array Slot), fX4_peek u x1 = some z → va_P D vwCl (wB a0 a1 a2 a3 a4 a5 a6 a7 a8 a9 a10 a11 a12 a13 a14 a15 a16 cI u) H → va_D A (wB a0 a1 a2 a3 a4 a5 a6 a7 a8 a9 a10 a11 a12 a13 a14 a15 a16 cI u) → va_S A s.heap H locs → lv_has ls 2 [(0, .ref a0), (1, .int x1)] → W p l e rmX4_peek s m args below meth c H locs 0 0 (vx_MQ below (oIk D vwCl [(cI, .int)] A z.1 z.2 (wB a0 a1 a2 a3 a4 a5 a6 a7 a8 a9 a10 a11 a12 a13 a14 a15 a16 cI u)) (oX D vwCl [(cI, .int)] A z.1 (wB a0 a1 a2 a3 a4 a5 a6 a7 a8 a9 a10 a11 a12 a13 a14 a15 a16 cI u)) args s 1 6 A) (F0 m 0 ls []) := by
  have C0 := C
  obtain ⟨hx, hb, hr, hml, hown, hts, hlocks, hK, hA⟩ := C
  intro z u x1 H locs ls hf hP hD hS hl
  unfold fX4_peek at hf
  refine lv_iload_n hx hb dX4_peek_0 rfl (lv_at hl 1 rfl) ?_
  obtain ⟨z_1, hz_1, hf⟩ := pLet_out hf
  refine gI0 (va_runS (As := [.int x1]) (rest := []) ⟨hx, hb, hml, hown, hts⟩ (ctX4_isByte l D cI x1 z_1 hz_1.symm H.size) (va_cwS 1 hts gX4_peek_X4_isByte rfl rfl rfl (by decide +kernel) ⟨Nat.le_of_ble_eq_true rfl, Nat.le_of_ble_eq_true rfl⟩) (gPreS hP hK hD [] (by decide) rfl) rfl rfl hl.1 rfl (lv_room (Nat.le_of_ble_eq_true rfl)) dX4_peek_1 ⟨Nat.le_of_ble_eq_true rfl, Nat.le_of_ble_eq_true rfl⟩) hP hD hS hA (fun H locs hP hS => ?_)
  refine lv_if_ne (tgt := 15) hx hb dX4_peek_4 (by decide) (fun c_2 => ?_) (fun c_2 => ?_)
  · replace hf := pI_f c_2 hf
    refine lv_aload_n hx hb dX4_peek_15 rfl (lv_at hl 0 rfl) ?_
    refine va_get (D := D) (ci := 3) (v := .ref a1) (C := RX4) (T := TX4) (N := 11) hx hb hts inX4_peek_X4 hown hK hP 0 rfl rfl 0 (by decide) (hts (.fieldLink RX4 10 "BlockCache" "guest" "LBlockCache$Guest;") (by decide +kernel)) (fun _ h9 => h9) rfl dX4_peek_16 ?_
    refine va_get (D := D) (ci := 1) (v := .ref a3) (C := RX2) (T := TX2) (N := 6) hx hb hts inX4_peek_X2 hown hK hP 1 rfl rfl 1 (by decide) (hts (.fieldLink RX4 46 "BlockCache$Guest" "memory" "[I") (by decide +kernel)) (fun _ h9 => h9) rfl dX4_peek_19 ?_
    refine lv_iload_n hx hb dX4_peek_22 rfl (lv_at hl 1 rfl) ?_
    obtain ⟨h_3, hf⟩ := pIn_out hf
    refine va_iald hx hb hK hP 3 0 rfl rfl h_3 dX4_peek_23 ?_
    have hz := Option.some.inj hf
    subst hz
    exact gRetIk hx hb hr hlocks hK hP hD hS rfl rfl rfl dX4_peek_24 (by decide) (by decide)
  · replace hf := pI_t c_2 hf
    have hz := Option.some.inj hf
    subst hz
    exact gThrow (cls := "java/lang/IllegalArgumentException") (names := ["java/lang/RuntimeException", "java/lang/Exception"]) (ik := 43) (ic := 45) CX hx hb (hl.1.trans hml.symm) hlocks hown hts hK hP hD hS (by decide) (by decide) (by decide +kernel) (by decide +kernel) xaX4_peek_1 xn45 xg45 dX4_peek_7 dX4_peek_10 dX4_peek_11 dX4_peek_14 (by decide) (by decide) (by decide) (by decide) rfl rfl
theorem ctX4_peek (l : Launch) (htr : l.stackTraces = false) (D : va_G) (cI : ClassId) (a0 a1 a2 a3 a4 a5 a6 a7 a8 a9 a10 a11 a12 a13 a14 a15 a16 : Nat) (u : TB) (x1 : Int32) (z : Int32 × Int32) (hz : fX4_peek u x1 = some z) : CtXI l yX4_peek wsX4_peek rmX4_peek D vwCl [(cI, .int)] [.ref a0, .int x1] (wB a0 a1 a2 a3 a4 a5 a6 a7 a8 a9 a10 a11 a12 a13 a14 a15 a16 cI u) z.1 z.2 (wB a0 a1 a2 a3 a4 a5 a6 a7 a8 a9 a10 a11 a12 a13 a14 a15 a16 cI u) :=
  ctXI_of (cc := cX4_peek) (maxL := 2) (ret := (some .int)) htr (by decide) rfl (Nat.le_of_ble_eq_true rfl) (fun p e s m below meth c A ls C CX hl hP hD hS => wkX4_peek C CX z _ _ s.heap [] ls hz hP hD hS hl)
abbrev rmX4_isState : Room := { frames := 0, cells := 0, slots := 0, locals := 0 }
set_option maxRecDepth 100000 in
set_option maxHeartbeats 4000000 in
theorem wkX4_isState {p : Program} {l : Launch} {e : Env} {s : State} {m : MethodId} {args : Array Value} {below : List Frame} {meth : Method} {c : Code} {D : va_G} {cI : ClassId} {A : Nat → Prop} (C : cxt p s m args meth c cX4_isState (some .boolean) 1 RX4 wsX4_isState D vwCl [(cI, .int)] A) : ∀ (z : Int32) (x0 : Int32) (H : Heap) (locs : List Loc) (ls : Array Slot), fX4_isState x0 = z → va_P D vwCl ([] : va_W) H → va_D A ([] : va_W) → va_S A s.heap H locs → lv_has ls 1 [(0, .int x0)] → W p l e rmX4_isState s m args below meth c H locs 0 0 (MQ below (oI D vwCl [(cI, .int)] A z ([] : va_W)) args s 0 0 A) (F0 m 0 ls []) := by
  have C0 := C
  obtain ⟨hx, hb, hr, hml, hown, hts, hlocks, hK, hA⟩ := C
  intro z x0 H locs ls hf hP hD hS hl
  unfold fX4_isState at hf
  refine lv_iload_n hx hb dX4_isState_0 rfl (lv_at hl 0 rfl) ?_
  refine lv_if_lt (tgt := 14) hx hb dX4_isState_1 (by decide) (fun c_1 => ?_) (fun c_1 => ?_)
  · replace hf := pI_t c_1 hf
    refine lv_iconst (v := 0) hx hb dX4_isState_14 (by decide) ?_
    have hz := hf
    subst hz
    exact gRetZ hx hb hr hlocks hK hP hD hS (by decide) rfl rfl dX4_isState_15
  · replace hf := pI_f c_1 hf
    refine lv_iload_n hx hb dX4_isState_4 rfl (lv_at hl 0 rfl) ?_
    refine lv_bipush (v := 9) hx hb dX4_isState_5 (by decide) ?_
    refine lv_icmp_gt (tgt := 14) hx hb dX4_isState_7 (by decide) (fun c_2 => ?_) (fun c_2 => ?_)
    · replace hf := pI_t c_2 hf
      refine lv_iconst (v := 0) hx hb dX4_isState_14 (by decide) ?_
      have hz := hf
      subst hz
      exact gRetZ hx hb hr hlocks hK hP hD hS (by decide) rfl rfl dX4_isState_15
    · replace hf := pI_f c_2 hf
      refine lv_iconst (v := 1) hx hb dX4_isState_10 (by decide) ?_
      refine lv_goto (tgt := 15) hx hb dX4_isState_11 (by decide) ?_
      have hz := hf
      subst hz
      exact gRetZ hx hb hr hlocks hK hP hD hS (by decide) rfl rfl dX4_isState_15
theorem ctX4_isState (l : Launch) (D : va_G) (cI : ClassId) (x0 : Int32) (z : Int32) (hz : fX4_isState x0 = z) : CtI l yX4_isState wsX4_isState rmX4_isState D vwCl [(cI, .int)] [.int x0] ([] : va_W) z ([] : va_W) :=
  ctI_of (cc := cX4_isState) (maxL := 1) (ret := (some .boolean)) (by decide) rfl (Nat.le_of_ble_eq_true rfl) (fun p e s m below meth c A ls C hl hP hD hS => wkX4_isState C z _ s.heap [] ls hz hP hD hS hl)
abbrev rmX4_isOneBit : Room := { frames := 0, cells := 0, slots := 0, locals := 0 }
set_option maxRecDepth 100000 in
set_option maxHeartbeats 4000000 in
theorem wkX4_isOneBit {p : Program} {l : Launch} {e : Env} {s : State} {m : MethodId} {args : Array Value} {below : List Frame} {meth : Method} {c : Code} {D : va_G} {cI : ClassId} {A : Nat → Prop} (C : cxt p s m args meth c cX4_isOneBit (some .boolean) 1 RX4 wsX4_isOneBit D vwCl [(cI, .int)] A) : ∀ (z : Int32) (x0 : Int32) (H : Heap) (locs : List Loc) (ls : Array Slot), fX4_isOneBit x0 = z → va_P D vwCl ([] : va_W) H → va_D A ([] : va_W) → va_S A s.heap H locs → lv_has ls 1 [(0, .int x0)] → W p l e rmX4_isOneBit s m args below meth c H locs 0 0 (MQ below (oI D vwCl [(cI, .int)] A z ([] : va_W)) args s 0 0 A) (F0 m 0 ls []) := by
  have C0 := C
  obtain ⟨hx, hb, hr, hml, hown, hts, hlocks, hK, hA⟩ := C
  intro z x0 H locs ls hf hP hD hS hl
  unfold fX4_isOneBit at hf
  refine lv_iload_n hx hb dX4_isOneBit_0 rfl (lv_at hl 0 rfl) ?_
  refine lv_iconst (v := 5) hx hb dX4_isOneBit_1 (by decide) ?_
  refine lv_icmp_lt (tgt := 15) hx hb dX4_isOneBit_2 (by decide) (fun c_1 => ?_) (fun c_1 => ?_)
  · replace hf := pI_t c_1 hf
    refine lv_iconst (v := 0) hx hb dX4_isOneBit_15 (by decide) ?_
    have hz := hf
    subst hz
    exact gRetZ hx hb hr hlocks hK hP hD hS (by decide) rfl rfl dX4_isOneBit_16
  · replace hf := pI_f c_1 hf
    refine lv_iload_n hx hb dX4_isOneBit_5 rfl (lv_at hl 0 rfl) ?_
    refine lv_bipush (v := 8) hx hb dX4_isOneBit_6 (by decide) ?_
    refine lv_icmp_gt (tgt := 15) hx hb dX4_isOneBit_8 (by decide) (fun c_2 => ?_) (fun c_2 => ?_)
    · replace hf := pI_t c_2 hf
      refine lv_iconst (v := 0) hx hb dX4_isOneBit_15 (by decide) ?_
      have hz := hf
      subst hz
      exact gRetZ hx hb hr hlocks hK hP hD hS (by decide) rfl rfl dX4_isOneBit_16
    · replace hf := pI_f c_2 hf
      refine lv_iconst (v := 1) hx hb dX4_isOneBit_11 (by decide) ?_
      refine lv_goto (tgt := 16) hx hb dX4_isOneBit_12 (by decide) ?_
      have hz := hf
      subst hz
      exact gRetZ hx hb hr hlocks hK hP hD hS (by decide) rfl rfl dX4_isOneBit_16
theorem ctX4_isOneBit (l : Launch) (D : va_G) (cI : ClassId) (x0 : Int32) (z : Int32) (hz : fX4_isOneBit x0 = z) : CtI l yX4_isOneBit wsX4_isOneBit rmX4_isOneBit D vwCl [(cI, .int)] [.int x0] ([] : va_W) z ([] : va_W) :=
  ctI_of (cc := cX4_isOneBit) (maxL := 1) (ret := (some .boolean)) (by decide) rfl (Nat.le_of_ble_eq_true rfl) (fun p e s m below meth c A ls C hl hP hD hS => wkX4_isOneBit C z _ s.heap [] ls hz hP hD hS hl)
abbrev rmX4_set : Room := { frames := 6, cells := 1, slots := 6, locals := 81 }
theorem inX4_set_X2 : ∀ w ∈ wsX20, w ∈ wsX4_set := by decide +kernel
theorem inX4_set_X4 : ∀ w ∈ wsX40, w ∈ wsX4_set := by decide +kernel
theorem xaX4_set_1 : ∀ w ∈ (vx_at0 RX4 45 "java/lang/IllegalArgumentException" ["java/lang/RuntimeException", "java/lang/Exception"]).filter goodWord, w ∈ wsX4_set := by decide +kernel
set_option maxRecDepth 100000 in
set_option maxHeartbeats 4000000 in
theorem wkX4_set_b26 {p : Program} {l : Launch} {e : Env} {s : State} {m : MethodId} {args : Array Value} {below : List Frame} {meth : Method} {c : Code} {D : va_G} {cI : ClassId} {A : Nat → Prop} {a0 a1 a2 a3 a4 a5 a6 a7 a8 a9 a10 a11 a12 a13 a14 a15 a16 : Nat} (C : cxt p s m args meth c cX4_set none 3 RX4 wsX4_set D vwCl [(cI, .int)] A) (CX : cxX l s c A) : ∀ (z : Int32 × TB) (u : TB) (H : Heap) (locs : List Loc) (ls : Array Slot), fX4_set_b26 u = some z → va_P D vwCl (wB a0 a1 a2 a3 a4 a5 a6 a7 a8 a9 a10 a11 a12 a13 a14 a15 a16 cI u) H → va_D A (wB a0 a1 a2 a3 a4 a5 a6 a7 a8 a9 a10 a11 a12 a13 a14 a15 a16 cI u) → va_S A s.heap H locs → lv_has ls 3 [] → W p l e rmX4_set s m args below meth c H locs 0 0 (vx_MQ below (oVk D vwCl [(cI, .int)] A z.1 (wB a0 a1 a2 a3 a4 a5 a6 a7 a8 a9 a10 a11 a12 a13 a14 a15 a16 cI z.2)) (oX D vwCl [(cI, .int)] A z.1 (wB a0 a1 a2 a3 a4 a5 a6 a7 a8 a9 a10 a11 a12 a13 a14 a15 a16 cI z.2)) args s 1 6 A) (F0 m 26 ls []) := by
  have C0 := C
  obtain ⟨hx, hb, hr, hml, hown, hts, hlocks, hK, hA⟩ := C
  intro z u H locs ls hf hP hD hS hl
  unfold fX4_set_b26 at hf
  have hz := Option.some.inj hf
  subst hz
  exact gThrow (cls := "java/lang/IllegalArgumentException") (names := ["java/lang/RuntimeException", "java/lang/Exception"]) (ik := 43) (ic := 45) CX hx hb (hl.1.trans hml.symm) hlocks hown hts hK hP hD hS (by decide) (by decide) (by decide +kernel) (by decide +kernel) xaX4_set_1 xn45 xg45 dX4_set_26 dX4_set_29 dX4_set_30 dX4_set_33 (by decide) (by decide) (by decide) (by decide) rfl rfl
set_option maxRecDepth 100000 in
set_option maxHeartbeats 4000000 in
theorem wkX4_set_b34 {p : Program} {l : Launch} {e : Env} {s : State} {m : MethodId} {args : Array Value} {below : List Frame} {meth : Method} {c : Code} {D : va_G} {cI : ClassId} {A : Nat → Prop} {a0 a1 a2 a3 a4 a5 a6 a7 a8 a9 a10 a11 a12 a13 a14 a15 a16 : Nat} (C : cxt p s m args meth c cX4_set none 3 RX4 wsX4_set D vwCl [(cI, .int)] A) (CX : cxX l s c A) : ∀ (z : Int32 × TB) (u : TB) (x1 : Int32) (x2 : Int32) (H : Heap) (locs : List Loc) (ls : Array Slot), fX4_set_b34 u x1 x2 = some z → va_P D vwCl (wB a0 a1 a2 a3 a4 a5 a6 a7 a8 a9 a10 a11 a12 a13 a14 a15 a16 cI u) H → va_D A (wB a0 a1 a2 a3 a4 a5 a6 a7 a8 a9 a10 a11 a12 a13 a14 a15 a16 cI u) → va_S A s.heap H locs → lv_has ls 3 [(0, .ref a0), (1, .int x1), (2, .int x2)] → W p l e rmX4_set s m args below meth c H locs 0 0 (vx_MQ below (oVk D vwCl [(cI, .int)] A z.1 (wB a0 a1 a2 a3 a4 a5 a6 a7 a8 a9 a10 a11 a12 a13 a14 a15 a16 cI z.2)) (oX D vwCl [(cI, .int)] A z.1 (wB a0 a1 a2 a3 a4 a5 a6 a7 a8 a9 a10 a11 a12 a13 a14 a15 a16 cI z.2)) args s 1 6 A) (F0 m 34 ls []) := by
  have C0 := C
  obtain ⟨hx, hb, hr, hml, hown, hts, hlocks, hK, hA⟩ := C
  intro z u x1 x2 H locs ls hf hP hD hS hl
  unfold fX4_set_b34 at hf
  refine lv_aload_n hx hb dX4_set_34 rfl (lv_at hl 0 rfl) ?_
  refine va_get (D := D) (ci := 3) (v := .ref a1) (C := RX4) (T := TX4) (N := 11) hx hb hts inX4_set_X4 hown hK hP 0 rfl rfl 0 (by decide) (hts (.fieldLink RX4 10 "BlockCache" "guest" "LBlockCache$Guest;") (by decide +kernel)) (fun _ h9 => h9) rfl dX4_set_35 ?_
  refine va_get (D := D) (ci := 1) (v := .ref a2) (C := RX2) (T := TX2) (N := 6) hx hb hts inX4_set_X2 hown hK hP 1 rfl rfl 0 (by decide) (hts (.fieldLink RX4 60 "BlockCache$Guest" "state" "[I") (by decide +kernel)) (fun _ h9 => h9) rfl dX4_set_38 ?_
  refine lv_iload_n hx hb dX4_set_41 rfl (lv_at hl 1 rfl) ?_
  refine lv_iload_n hx hb dX4_set_42 rfl (lv_at hl 2 rfl) ?_
  obtain ⟨h_1, hf⟩ := pIn_out hf
  refine va_iast hx hb hK hP hD hS 2 0 rfl rfl h_1 dX4_set_43 (fun H locs hP hD hS => ?_)
  obtain ⟨u_2, eu_2, hf⟩ := pLet_out hf
  replace hP : va_P D vwCl (wB a0 a1 a2 a3 a4 a5 a6 a7 a8 a9 a10 a11 a12 a13 a14 a15 a16 cI u_2) H := by rw [eu_2]; exact hP
  replace hD : va_D A (wB a0 a1 a2 a3 a4 a5 a6 a7 a8 a9 a10 a11 a12 a13 a14 a15 a16 cI u_2) := by rw [eu_2]; exact hD
  have hz := Option.some.inj hf
  subst hz
  exact gRetVk hx hb hr hlocks hK hP hD hS rfl rfl dX4_set_44 (by decide) (by decide)
set_option maxRecDepth 100000 in
set_option maxHeartbeats 4000000 in
theorem wkX4_set {p : Program} {l : Launch} {e : Env} {s : State} {m : MethodId} {args : Array Value} {below : List Frame} {meth : Method} {c : Code} {D : va_G} {cI : ClassId} {A : Nat → Prop} {a0 a1 a2 a3 a4 a5 a6 a7 a8 a9 a10 a11 a12 a13 a14 a15 a16 : Nat} (C : cxt p s m args meth c cX4_set none 3 RX4 wsX4_set D vwCl [(cI, .int)] A) (CX : cxX l s c A) : ∀ (z : Int32 × TB) (u : TB) (x1 : Int32) (x2 : Int32) (H : Heap) (locs : List Loc) (ls : Array Slot), fX4_set u x1 x2 = some z → va_P D vwCl (wB a0 a1 a2 a3 a4 a5 a6 a7 a8 a9 a10 a11 a12 a13 a14 a15 a16 cI u) H → va_D A (wB a0 a1 a2 a3 a4 a5 a6 a7 a8 a9 a10 a11 a12 a13 a14 a15 a16 cI u) → va_S A s.heap H locs → lv_has ls 3 [(0, .ref a0), (1, .int x1), (2, .int x2)] → W p l e rmX4_set s m args below meth c H locs 0 0 (vx_MQ below (oVk D vwCl [(cI, .int)] A z.1 (wB a0 a1 a2 a3 a4 a5 a6 a7 a8 a9 a10 a11 a12 a13 a14 a15 a16 cI z.2)) (oX D vwCl [(cI, .int)] A z.1 (wB a0 a1 a2 a3 a4 a5 a6 a7 a8 a9 a10 a11 a12 a13 a14 a15 a16 cI z.2)) args s 1 6 A) (F0 m 0 ls []) := by
  have C0 := C
  obtain ⟨hx, hb, hr, hml, hown, hts, hlocks, hK, hA⟩ := C
  intro z u x1 x2 H locs ls hf hP hD hS hl
  unfold fX4_set at hf
  refine lv_iload_n hx hb dX4_set_0 rfl (lv_at hl 1 rfl) ?_
  obtain ⟨z_1, hz_1, hf⟩ := pLet_out hf
  refine gI0 (va_runS (As := [.int x1]) (rest := []) ⟨hx, hb, hml, hown, hts⟩ (ctX4_isState l D cI x1 z_1 hz_1.symm H.size) (va_cwS 1 hts gX4_set_X4_isState rfl rfl rfl (by decide +kernel) ⟨Nat.le_of_ble_eq_true rfl, Nat.le_of_ble_eq_true rfl⟩) (gPreS hP hK hD [] (by decide) rfl) rfl rfl hl.1 rfl (lv_room (Nat.le_of_ble_eq_true rfl)) dX4_set_1 ⟨Nat.le_of_ble_eq_true rfl, Nat.le_of_ble_eq_true rfl⟩) hP hD hS hA (fun H locs hP hS => ?_)
  refine lv_if_eq (tgt := 26) hx hb dX4_set_4 (by decide) (fun c_2 => ?_) (fun c_2 => ?_)
  · replace hf := pI_t c_2 hf
    exact wkX4_set_b26 C0 CX _ _ H locs ls hf hP hD hS (lv_sub hl [] rfl)
  · replace hf := pI_f c_2 hf
    refine lv_iload_n hx hb dX4_set_7 rfl (lv_at hl 2 rfl) ?_
    obtain ⟨z_3, hz_3, hf⟩ := pLet_out hf
    refine gI0 (va_runS (As := [.int x2]) (rest := []) ⟨hx, hb, hml, hown, hts⟩ (ctX4_isByte l D cI x2 z_3 hz_3.symm H.size) (va_cwS 1 hts gX4_set_X4_isByte rfl rfl rfl (by decide +kernel) ⟨Nat.le_of_ble_eq_true rfl, Nat.le_of_ble_eq_true rfl⟩) (gPreS hP hK hD [] (by decide) rfl) rfl rfl hl.1 rfl (lv_room (Nat.le_of_ble_eq_true rfl)) dX4_set_8 ⟨Nat.le_of_ble_eq_true rfl, Nat.le_of_ble_eq_true rfl⟩) hP hD hS hA (fun H locs hP hS => ?_)
    refine lv_if_eq (tgt := 26) hx hb dX4_set_11 (by decide) (fun c_4 => ?_) (fun c_4 => ?_)
    · replace hf := pI_t c_4 hf
      exact wkX4_set_b26 C0 CX _ _ H locs ls hf hP hD hS (lv_sub hl [] rfl)
    · replace hf := pI_f c_4 hf
      refine lv_iload_n hx hb dX4_set_14 rfl (lv_at hl 1 rfl) ?_
      obtain ⟨z_5, hz_5, hf⟩ := pLet_out hf
      refine gI0 (va_runS (As := [.int x1]) (rest := []) ⟨hx, hb, hml, hown, hts⟩ (ctX4_isOneBit l D cI x1 z_5 hz_5.symm H.size) (va_cwS 1 hts gX4_set_X4_isOneBit rfl rfl rfl (by decide +kernel) ⟨Nat.le_of_ble_eq_true rfl, Nat.le_of_ble_eq_true rfl⟩) (gPreS hP hK hD [] (by decide) rfl) rfl rfl hl.1 rfl (lv_room (Nat.le_of_ble_eq_true rfl)) dX4_set_15 ⟨Nat.le_of_ble_eq_true rfl, Nat.le_of_ble_eq_true rfl⟩) hP hD hS hA (fun H locs hP hS => ?_)
      refine lv_if_eq (tgt := 34) hx hb dX4_set_18 (by decide) (fun c_6 => ?_) (fun c_6 => ?_)
      · replace hf := pI_t c_6 hf
        exact wkX4_set_b34 C0 CX _ _ _ _ H locs ls hf hP hD hS (lv_sub hl [0, 1, 2] rfl)
      · replace hf := pI_f c_6 hf
        refine lv_iload_n hx hb dX4_set_21 rfl (lv_at hl 2 rfl) ?_
        refine lv_iconst (v := 1) hx hb dX4_set_22 (by decide) ?_
        refine lv_icmp_le (tgt := 34) hx hb dX4_set_23 (by decide) (fun c_7 => ?_) (fun c_7 => ?_)
        · replace hf := pI_t c_7 hf
          exact wkX4_set_b34 C0 CX _ _ _ _ H locs ls hf hP hD hS (lv_sub hl [0, 1, 2] rfl)
        · replace hf := pI_f c_7 hf
          exact wkX4_set_b26 C0 CX _ _ H locs ls hf hP hD hS (lv_sub hl [] rfl)
theorem ctX4_set (l : Launch) (htr : l.stackTraces = false) (D : va_G) (cI : ClassId) (a0 a1 a2 a3 a4 a5 a6 a7 a8 a9 a10 a11 a12 a13 a14 a15 a16 : Nat) (u : TB) (x1 : Int32) (x2 : Int32) (z : Int32 × TB) (hz : fX4_set u x1 x2 = some z) : CtXV l yX4_set wsX4_set rmX4_set D vwCl [(cI, .int)] [.ref a0, .int x1, .int x2] (wB a0 a1 a2 a3 a4 a5 a6 a7 a8 a9 a10 a11 a12 a13 a14 a15 a16 cI u) z.1 (wB a0 a1 a2 a3 a4 a5 a6 a7 a8 a9 a10 a11 a12 a13 a14 a15 a16 cI z.2) :=
  ctXV_of (cc := cX4_set) (maxL := 3) (ret := none) htr (by decide) rfl (Nat.le_of_ble_eq_true rfl) (fun p e s m below meth c A ls C CX hl hP hD hS => wkX4_set C CX z _ _ _ s.heap [] ls hz hP hD hS hl)
abbrev rmX4_get : Room := { frames := 6, cells := 1, slots := 6, locals := 81 }
theorem inX4_get_X2 : ∀ w ∈ wsX20, w ∈ wsX4_get := by decide +kernel
theorem inX4_get_X4 : ∀ w ∈ wsX40, w ∈ wsX4_get := by decide +kernel
theorem xaX4_get_1 : ∀ w ∈ (vx_at0 RX4 45 "java/lang/IllegalArgumentException" ["java/lang/RuntimeException", "java/lang/Exception"]).filter goodWord, w ∈ wsX4_get := by decide +kernel
set_option maxRecDepth 100000 in
set_option maxHeartbeats 4000000 in
theorem wkX4_get {p : Program} {l : Launch} {e : Env} {s : State} {m : MethodId} {args : Array Value} {below : List Frame} {meth : Method} {c : Code} {D : va_G} {cI : ClassId} {A : Nat → Prop} {a0 a1 a2 a3 a4 a5 a6 a7 a8 a9 a10 a11 a12 a13 a14 a15 a16 : Nat} (C : cxt p s m args meth c cX4_get (some .int) 2 RX4 wsX4_get D vwCl [(cI, .int)] A) (CX : cxX l s c A) : ∀ (z : Int32 × Int32) (u : TB) (x1 : Int32) (H : Heap) (locs : List Loc) (ls : Array Slot), fX4_get u x1 = some z → va_P D vwCl (wB a0 a1 a2 a3 a4 a5 a6 a7 a8 a9 a10 a11 a12 a13 a14 a15 a16 cI u) H → va_D A (wB a0 a1 a2 a3 a4 a5 a6 a7 a8 a9 a10 a11 a12 a13 a14 a15 a16 cI u) → va_S A s.heap H locs → lv_has ls 2 [(0, .ref a0), (1, .int x1)] → W p l e rmX4_get s m args below meth c H locs 0 0 (vx_MQ below (oIk D vwCl [(cI, .int)] A z.1 z.2 (wB a0 a1 a2 a3 a4 a5 a6 a7 a8 a9 a10 a11 a12 a13 a14 a15 a16 cI u)) (oX D vwCl [(cI, .int)] A z.1 (wB a0 a1 a2 a3 a4 a5 a6 a7 a8 a9 a10 a11 a12 a13 a14 a15 a16 cI u)) args s 1 6 A) (F0 m 0 ls []) := by
  have C0 := C
  obtain ⟨hx, hb, hr, hml, hown, hts, hlocks, hK, hA⟩ := C
  intro z u x1 H locs ls hf hP hD hS hl
  unfold fX4_get at hf
  refine lv_iload_n hx hb dX4_get_0 rfl (lv_at hl 1 rfl) ?_
  obtain ⟨z_1, hz_1, hf⟩ := pLet_out hf
  refine gI0 (va_runS (As := [.int x1]) (rest := []) ⟨hx, hb, hml, hown, hts⟩ (ctX4_isState l D cI x1 z_1 hz_1.symm H.size) (va_cwS 1 hts gX4_get_X4_isState rfl rfl rfl (by decide +kernel) ⟨Nat.le_of_ble_eq_true rfl, Nat.le_of_ble_eq_true rfl⟩) (gPreS hP hK hD [] (by decide) rfl) rfl rfl hl.1 rfl (lv_room (Nat.le_of_ble_eq_true rfl)) dX4_get_1 ⟨Nat.le_of_ble_eq_true rfl, Nat.le_of_ble_eq_true rfl⟩) hP hD hS hA (fun H locs hP hS => ?_)
  refine lv_if_ne (tgt := 15) hx hb dX4_get_4 (by decide) (fun c_2 => ?_) (fun c_2 => ?_)
  · replace hf := pI_f c_2 hf
    refine lv_aload_n hx hb dX4_get_15 rfl (lv_at hl 0 rfl) ?_
    refine va_get (D := D) (ci := 3) (v := .ref a1) (C := RX4) (T := TX4) (N := 11) hx hb hts inX4_get_X4 hown hK hP 0 rfl rfl 0 (by decide) (hts (.fieldLink RX4 10 "BlockCache" "guest" "LBlockCache$Guest;") (by decide +kernel)) (fun _ h9 => h9) rfl dX4_get_16 ?_
    refine va_get (D := D) (ci := 1) (v := .ref a2) (C := RX2) (T := TX2) (N := 6) hx hb hts inX4_get_X2 hown hK hP 1 rfl rfl 0 (by decide) (hts (.fieldLink RX4 60 "BlockCache$Guest" "state" "[I") (by decide +kernel)) (fun _ h9 => h9) rfl dX4_get_19 ?_
    refine lv_iload_n hx hb dX4_get_22 rfl (lv_at hl 1 rfl) ?_
    obtain ⟨h_3, hf⟩ := pIn_out hf
    refine va_iald hx hb hK hP 2 0 rfl rfl h_3 dX4_get_23 ?_
    have hz := Option.some.inj hf
    subst hz
    exact gRetIk hx hb hr hlocks hK hP hD hS rfl rfl rfl dX4_get_24 (by decide) (by decide)
  · replace hf := pI_t c_2 hf
    have hz := Option.some.inj hf
    subst hz
    exact gThrow (cls := "java/lang/IllegalArgumentException") (names := ["java/lang/RuntimeException", "java/lang/Exception"]) (ik := 43) (ic := 45) CX hx hb (hl.1.trans hml.symm) hlocks hown hts hK hP hD hS (by decide) (by decide) (by decide +kernel) (by decide +kernel) xaX4_get_1 xn45 xg45 dX4_get_7 dX4_get_10 dX4_get_11 dX4_get_14 (by decide) (by decide) (by decide) (by decide) rfl rfl
theorem ctX4_get (l : Launch) (htr : l.stackTraces = false) (D : va_G) (cI : ClassId) (a0 a1 a2 a3 a4 a5 a6 a7 a8 a9 a10 a11 a12 a13 a14 a15 a16 : Nat) (u : TB) (x1 : Int32) (z : Int32 × Int32) (hz : fX4_get u x1 = some z) : CtXI l yX4_get wsX4_get rmX4_get D vwCl [(cI, .int)] [.ref a0, .int x1] (wB a0 a1 a2 a3 a4 a5 a6 a7 a8 a9 a10 a11 a12 a13 a14 a15 a16 cI u) z.1 z.2 (wB a0 a1 a2 a3 a4 a5 a6 a7 a8 a9 a10 a11 a12 a13 a14 a15 a16 cI u) :=
  ctXI_of (cc := cX4_get) (maxL := 2) (ret := (some .int)) htr (by decide) rfl (Nat.le_of_ble_eq_true rfl) (fun p e s m below meth c A ls C CX hl hP hD hS => wkX4_get C CX z _ _ s.heap [] ls hz hP hD hS hl)
abbrev rmX4_input : Room := { frames := 6, cells := 1, slots := 6, locals := 81 }
theorem inX4_input_X2 : ∀ w ∈ wsX20, w ∈ wsX4_input := by decide +kernel
theorem inX4_input_X3 : ∀ w ∈ wsX30, w ∈ wsX4_input := by decide +kernel
theorem inX4_input_X4 : ∀ w ∈ wsX40, w ∈ wsX4_input := by decide +kernel
theorem xaX4_input_1 : ∀ w ∈ (vx_at0 RX4 45 "java/lang/IllegalArgumentException" ["java/lang/RuntimeException", "java/lang/Exception"]).filter goodWord, w ∈ wsX4_input := by decide +kernel
theorem xaX4_input_2 : ∀ w ∈ (vx_at0 RX4 72 "java/lang/IllegalStateException" ["java/lang/RuntimeException", "java/lang/Exception"]).filter goodWord, w ∈ wsX4_input := by decide +kernel
set_option maxRecDepth 100000 in
set_option maxHeartbeats 4000000 in
theorem wkX4_input {p : Program} {l : Launch} {e : Env} {s : State} {m : MethodId} {args : Array Value} {below : List Frame} {meth : Method} {c : Code} {D : va_G} {cI : ClassId} {A : Nat → Prop} {a0 a1 a2 a3 a4 a5 a6 a7 a8 a9 a10 a11 a12 a13 a14 a15 a16 : Nat} (C : cxt p s m args meth c cX4_input (some .int) 2 RX4 wsX4_input D vwCl [(cI, .int)] A) (CX : cxX l s c A) : ∀ (z : Int32 × Int32 × TB) (u : TB) (x1 : Int32) (H : Heap) (locs : List Loc) (ls : Array Slot), fX4_input u x1 = some z → va_P D vwCl (wB a0 a1 a2 a3 a4 a5 a6 a7 a8 a9 a10 a11 a12 a13 a14 a15 a16 cI u) H → va_D A (wB a0 a1 a2 a3 a4 a5 a6 a7 a8 a9 a10 a11 a12 a13 a14 a15 a16 cI u) → va_S A s.heap H locs → lv_has ls 2 [(0, .ref a0), (1, .int x1)] → W p l e rmX4_input s m args below meth c H locs 0 0 (vx_MQ below (oIk D vwCl [(cI, .int)] A z.1 z.2.1 (wB a0 a1 a2 a3 a4 a5 a6 a7 a8 a9 a10 a11 a12 a13 a14 a15 a16 cI z.2.2)) (oX D vwCl [(cI, .int)] A z.1 (wB a0 a1 a2 a3 a4 a5 a6 a7 a8 a9 a10 a11 a12 a13 a14 a15 a16 cI z.2.2)) args s 1 6 A) (F0 m 0 ls []) := by
  have C0 := C
  obtain ⟨hx, hb, hr, hml, hown, hts, hlocks, hK, hA⟩ := C
  intro z u x1 H locs ls hf hP hD hS hl
  unfold fX4_input at hf
  refine lv_iload_n hx hb dX4_input_0 rfl (lv_at hl 1 rfl) ?_
  obtain ⟨z_1, hz_1, hf⟩ := pLet_out hf
  refine gI0 (va_runS (As := [.int x1]) (rest := []) ⟨hx, hb, hml, hown, hts⟩ (ctX4_isByte l D cI x1 z_1 hz_1.symm H.size) (va_cwS 1 hts gX4_input_X4_isByte rfl rfl rfl (by decide +kernel) ⟨Nat.le_of_ble_eq_true rfl, Nat.le_of_ble_eq_true rfl⟩) (gPreS hP hK hD [] (by decide) rfl) rfl rfl hl.1 rfl (lv_room (Nat.le_of_ble_eq_true rfl)) dX4_input_1 ⟨Nat.le_of_ble_eq_true rfl, Nat.le_of_ble_eq_true rfl⟩) hP hD hS hA (fun H locs hP hS => ?_)
  refine lv_if_ne (tgt := 15) hx hb dX4_input_4 (by decide) (fun c_2 => ?_) (fun c_2 => ?_)
  · replace hf := pI_f c_2 hf
    refine lv_aload_n hx hb dX4_input_15 rfl (lv_at hl 0 rfl) ?_
    refine va_get (D := D) (ci := 3) (v := .ref a1) (C := RX4) (T := TX4) (N := 11) hx hb hts inX4_input_X4 hown hK hP 0 rfl rfl 0 (by decide) (hts (.fieldLink RX4 10 "BlockCache" "guest" "LBlockCache$Guest;") (by decide +kernel)) (fun _ h9 => h9) rfl dX4_input_16 ?_
    refine va_get (D := D) (ci := 1) (v := .ref a4) (C := RX2) (T := TX2) (N := 6) hx hb hts inX4_input_X2 hown hK hP 1 rfl rfl 2 (by decide) (hts (.fieldLink RX4 63 "BlockCache$Guest" "inputs" "LBlockCache$Queue;") (by decide +kernel)) (fun _ h9 => h9) rfl dX4_input_19 ?_
    obtain ⟨z_3, hz_3, hf⟩ := pLet_out hf
    refine gI (w' := (wB a0 a1 a2 a3 a4 a5 a6 a7 a8 a9 a10 a11 a12 a13 a14 a15 a16 cI u)) (va_runV (As := []) (rest := []) ⟨hx, hb, hml, hown, hts⟩ (ctX3_isFull l D cI a4 a5 32 (gG_inputs (gB_guest u)) z_3 hz_3.symm H.size) (cwV 0 hts gX4_input_X3_isFull rfl rfl rfl (by decide +kernel) ⟨Nat.le_of_ble_eq_true rfl, Nat.le_of_ble_eq_true rfl⟩) (gPreV (ci := 2) (C := RX3) (T := TX3) (N := 3) hP hK hD [4, 5] (by decide) rfl 4 rfl rfl) rfl rfl hl.1 rfl (lv_room (Nat.le_of_ble_eq_true rfl)) dX4_input_22 ⟨Nat.le_of_ble_eq_true rfl, Nat.le_of_ble_eq_true rfl⟩) hP hD hS hA [4, 5] [0, 1, 2, 3, 6, 7, 8, 9, 10, 11, 12, 13, 14, 15, 16] [0, 1, 2, 3, 15, 16, 4, 5, 6, 7, 8, 9, 10, 11, 12, 13, 14] rfl rfl (by decide) (by decide) rfl (by decide) (fun H locs hP hD hS => ?_)
    refine lv_if_eq (tgt := 36) hx hb dX4_input_25 (by decide) (fun c_4 => ?_) (fun c_4 => ?_)
    · replace hf := pI_t c_4 hf
      refine lv_aload_n hx hb dX4_input_36 rfl (lv_at hl 0 rfl) ?_
      refine va_get (D := D) (ci := 3) (v := .ref a1) (C := RX4) (T := TX4) (N := 11) hx hb hts inX4_input_X4 hown hK hP 0 rfl rfl 0 (by decide) (hts (.fieldLink RX4 10 "BlockCache" "guest" "LBlockCache$Guest;") (by decide +kernel)) (fun _ h9 => h9) rfl dX4_input_37 ?_
      refine va_get (D := D) (ci := 1) (v := .ref a4) (C := RX2) (T := TX2) (N := 6) hx hb hts inX4_input_X2 hown hK hP 1 rfl rfl 2 (by decide) (hts (.fieldLink RX4 63 "BlockCache$Guest" "inputs" "LBlockCache$Queue;") (by decide +kernel)) (fun _ h9 => h9) rfl dX4_input_40 ?_
      refine lv_iload_n hx hb dX4_input_43 rfl (lv_at hl 1 rfl) ?_
      obtain ⟨z_5, hz_5, hf⟩ := pB_out hf
      obtain ⟨u_6, eu_6, hf⟩ := pLet_out hf
      refine gV (w' := (wB a0 a1 a2 a3 a4 a5 a6 a7 a8 a9 a10 a11 a12 a13 a14 a15 a16 cI u_6)) (va_runV (As := [.int x1]) (rest := []) ⟨hx, hb, hml, hown, hts⟩ (ctX3_append l D cI a4 a5 32 (gG_inputs (gB_guest u)) x1 z_5 hz_5 H.size) (cwV 1 hts gX4_input_X3_append rfl rfl rfl (by decide +kernel) ⟨Nat.le_of_ble_eq_true rfl, Nat.le_of_ble_eq_true rfl⟩) (gPreV (ci := 2) (C := RX3) (T := TX3) (N := 3) hP hK hD [4, 5] (by decide) rfl 4 rfl rfl) rfl rfl hl.1 rfl (lv_room (Nat.le_of_ble_eq_true rfl)) dX4_input_44 ⟨Nat.le_of_ble_eq_true rfl, Nat.le_of_ble_eq_true rfl⟩) hP hD hS hA [4, 5] [0, 1, 2, 3, 6, 7, 8, 9, 10, 11, 12, 13, 14, 15, 16] [0, 1, 2, 3, 15, 16, 4, 5, 6, 7, 8, 9, 10, 11, 12, 13, 14] rfl rfl (by decide) (by decide) (by rw [eu_6]; rfl) (by decide) (fun H locs hP hD hS => ?_)
      refine lv_aload_n hx hb dX4_input_47 rfl (lv_at hl 0 rfl) ?_
      refine va_get (D := D) (ci := 3) (v := .ref a1) (C := RX4) (T := TX4) (N := 11) hx hb hts inX4_input_X4 hown hK hP 0 rfl rfl 0 (by decide) (hts (.fieldLink RX4 10 "BlockCache" "guest" "LBlockCache$Guest;") (by decide +kernel)) (fun _ h9 => h9) rfl dX4_input_48 ?_
      refine va_get (D := D) (ci := 1) (v := .ref a4) (C := RX2) (T := TX2) (N := 6) hx hb hts inX4_input_X2 hown hK hP 1 rfl rfl 2 (by decide) (hts (.fieldLink RX4 63 "BlockCache$Guest" "inputs" "LBlockCache$Queue;") (by decide +kernel)) (fun _ h9 => h9) rfl dX4_input_51 ?_
      refine va_get (D := D) (ci := 2) (v := .int (gQ_many (gG_inputs (gB_guest u_6)))) (C := RX3) (T := TX3) (N := 3) hx hb hts inX4_input_X3 hown hK hP 4 rfl rfl 2 (by decide) (hts (.fieldLink RX4 76 "BlockCache$Queue" "many" "I") (by decide +kernel)) (fun _ h9 => h9) rfl dX4_input_54 ?_
      have hz := Option.some.inj hf
      subst hz
      exact gRetIk hx hb hr hlocks hK hP hD hS rfl rfl rfl dX4_input_57 (by decide) (by decide)
    · replace hf := pI_f c_4 hf
      have hz := Option.some.inj hf
      subst hz
      exact gThrow (cls := "java/lang/IllegalStateException") (names := ["java/lang/RuntimeException", "java/lang/Exception"]) (ik := 70) (ic := 72) CX hx hb (hl.1.trans hml.symm) hlocks hown hts hK hP hD hS (by decide) (by decide) (by decide +kernel) (by decide +kernel) xaX4_input_2 xn72 xg72 dX4_input_28 dX4_input_31 dX4_input_32 dX4_input_35 (by decide) (by decide) (by decide) (by decide) rfl rfl
  · replace hf := pI_t c_2 hf
    have hz := Option.some.inj hf
    subst hz
    exact gThrow (cls := "java/lang/IllegalArgumentException") (names := ["java/lang/RuntimeException", "java/lang/Exception"]) (ik := 43) (ic := 45) CX hx hb (hl.1.trans hml.symm) hlocks hown hts hK hP hD hS (by decide) (by decide) (by decide +kernel) (by decide +kernel) xaX4_input_1 xn45 xg45 dX4_input_7 dX4_input_10 dX4_input_11 dX4_input_14 (by decide) (by decide) (by decide) (by decide) rfl rfl
theorem ctX4_input (l : Launch) (htr : l.stackTraces = false) (D : va_G) (cI : ClassId) (a0 a1 a2 a3 a4 a5 a6 a7 a8 a9 a10 a11 a12 a13 a14 a15 a16 : Nat) (u : TB) (x1 : Int32) (z : Int32 × Int32 × TB) (hz : fX4_input u x1 = some z) : CtXI l yX4_input wsX4_input rmX4_input D vwCl [(cI, .int)] [.ref a0, .int x1] (wB a0 a1 a2 a3 a4 a5 a6 a7 a8 a9 a10 a11 a12 a13 a14 a15 a16 cI u) z.1 z.2.1 (wB a0 a1 a2 a3 a4 a5 a6 a7 a8 a9 a10 a11 a12 a13 a14 a15 a16 cI z.2.2) :=
  ctXI_of (cc := cX4_input) (maxL := 2) (ret := (some .int)) htr (by decide) rfl (Nat.le_of_ble_eq_true rfl) (fun p e s m below meth c A ls C CX hl hP hD hS => wkX4_input C CX z _ _ s.heap [] ls hz hP hD hS hl)
abbrev rmX4_request : Room := { frames := 6, cells := 1, slots := 6, locals := 81 }
theorem inX4_request_X3 : ∀ w ∈ wsX30, w ∈ wsX4_request := by decide +kernel
theorem inX4_request_X4 : ∀ w ∈ wsX40, w ∈ wsX4_request := by decide +kernel
theorem xaX4_request_1 : ∀ w ∈ (vx_at0 RX4 45 "java/lang/IllegalArgumentException" ["java/lang/RuntimeException", "java/lang/Exception"]).filter goodWord, w ∈ wsX4_request := by decide +kernel
theorem xaX4_request_2 : ∀ w ∈ (vx_at0 RX4 72 "java/lang/IllegalStateException" ["java/lang/RuntimeException", "java/lang/Exception"]).filter goodWord, w ∈ wsX4_request := by decide +kernel
set_option maxRecDepth 100000 in
set_option maxHeartbeats 4000000 in
theorem wkX4_request_b16 {p : Program} {l : Launch} {e : Env} {s : State} {m : MethodId} {args : Array Value} {below : List Frame} {meth : Method} {c : Code} {D : va_G} {cI : ClassId} {A : Nat → Prop} {a0 a1 a2 a3 a4 a5 a6 a7 a8 a9 a10 a11 a12 a13 a14 a15 a16 : Nat} (C : cxt p s m args meth c cX4_request (some .int) 2 RX4 wsX4_request D vwCl [(cI, .int)] A) (CX : cxX l s c A) : ∀ (z : Int32 × Int32 × TB) (u : TB) (H : Heap) (locs : List Loc) (ls : Array Slot), fX4_request_b16 u = some z → va_P D vwCl (wB a0 a1 a2 a3 a4 a5 a6 a7 a8 a9 a10 a11 a12 a13 a14 a15 a16 cI u) H → va_D A (wB a0 a1 a2 a3 a4 a5 a6 a7 a8 a9 a10 a11 a12 a13 a14 a15 a16 cI u) → va_S A s.heap H locs → lv_has ls 2 [] → W p l e rmX4_request s m args below meth c H locs 0 0 (vx_MQ below (oIk D vwCl [(cI, .int)] A z.1 z.2.1 (wB a0 a1 a2 a3 a4 a5 a6 a7 a8 a9 a10 a11 a12 a13 a14 a15 a16 cI z.2.2)) (oX D vwCl [(cI, .int)] A z.1 (wB a0 a1 a2 a3 a4 a5 a6 a7 a8 a9 a10 a11 a12 a13 a14 a15 a16 cI z.2.2)) args s 1 6 A) (F0 m 16 ls []) := by
  have C0 := C
  obtain ⟨hx, hb, hr, hml, hown, hts, hlocks, hK, hA⟩ := C
  intro z u H locs ls hf hP hD hS hl
  unfold fX4_request_b16 at hf
  have hz := Option.some.inj hf
  subst hz
  exact gThrow (cls := "java/lang/IllegalArgumentException") (names := ["java/lang/RuntimeException", "java/lang/Exception"]) (ik := 43) (ic := 45) CX hx hb (hl.1.trans hml.symm) hlocks hown hts hK hP hD hS (by decide) (by decide) (by decide +kernel) (by decide +kernel) xaX4_request_1 xn45 xg45 dX4_request_16 dX4_request_19 dX4_request_20 dX4_request_23 (by decide) (by decide) (by decide) (by decide) rfl rfl
set_option maxRecDepth 100000 in
set_option maxHeartbeats 4000000 in
theorem wkX4_request {p : Program} {l : Launch} {e : Env} {s : State} {m : MethodId} {args : Array Value} {below : List Frame} {meth : Method} {c : Code} {D : va_G} {cI : ClassId} {A : Nat → Prop} {a0 a1 a2 a3 a4 a5 a6 a7 a8 a9 a10 a11 a12 a13 a14 a15 a16 : Nat} (C : cxt p s m args meth c cX4_request (some .int) 2 RX4 wsX4_request D vwCl [(cI, .int)] A) (CX : cxX l s c A) : ∀ (z : Int32 × Int32 × TB) (u : TB) (x1 : Int32) (H : Heap) (locs : List Loc) (ls : Array Slot), fX4_request u x1 = some z → va_P D vwCl (wB a0 a1 a2 a3 a4 a5 a6 a7 a8 a9 a10 a11 a12 a13 a14 a15 a16 cI u) H → va_D A (wB a0 a1 a2 a3 a4 a5 a6 a7 a8 a9 a10 a11 a12 a13 a14 a15 a16 cI u) → va_S A s.heap H locs → lv_has ls 2 [(0, .ref a0), (1, .int x1)] → W p l e rmX4_request s m args below meth c H locs 0 0 (vx_MQ below (oIk D vwCl [(cI, .int)] A z.1 z.2.1 (wB a0 a1 a2 a3 a4 a5 a6 a7 a8 a9 a10 a11 a12 a13 a14 a15 a16 cI z.2.2)) (oX D vwCl [(cI, .int)] A z.1 (wB a0 a1 a2 a3 a4 a5 a6 a7 a8 a9 a10 a11 a12 a13 a14 a15 a16 cI z.2.2)) args s 1 6 A) (F0 m 0 ls []) := by
  have C0 := C
  obtain ⟨hx, hb, hr, hml, hown, hts, hlocks, hK, hA⟩ := C
  intro z u x1 H locs ls hf hP hD hS hl
  unfold fX4_request at hf
  refine lv_iload_n hx hb dX4_request_0 rfl (lv_at hl 1 rfl) ?_
  refine lv_aload_n hx hb dX4_request_1 rfl (lv_at hl 0 rfl) ?_
  refine va_get (D := D) (ci := 3) (v := .int (gB_latestRequest u)) (C := RX4) (T := TX4) (N := 11) hx hb hts inX4_request_X4 hown hK hP 0 rfl rfl 3 (by decide) (hts (.fieldLink RX4 32 "BlockCache" "latestRequest" "I") (by decide +kernel)) (fun _ h9 => h9) rfl dX4_request_2 ?_
  refine lv_icmp_le (tgt := 16) hx hb dX4_request_5 (by decide) (fun c_1 => ?_) (fun c_1 => ?_)
  · replace hf := pI_t c_1 hf
    exact wkX4_request_b16 C0 CX _ _ H locs ls hf hP hD hS (lv_sub hl [] rfl)
  · replace hf := pI_f c_1 hf
    refine lv_iload_n hx hb dX4_request_8 rfl (lv_at hl 1 rfl) ?_
    refine lv_aload_n hx hb dX4_request_9 rfl (lv_at hl 0 rfl) ?_
    refine va_get (D := D) (ci := 3) (v := .int (gB_executed u)) (C := RX4) (T := TX4) (N := 11) hx hb hts inX4_request_X4 hown hK hP 0 rfl rfl 4 (by decide) (hts (.fieldLink RX4 79 "BlockCache" "executed" "I") (by decide +kernel)) (fun _ h9 => h9) rfl dX4_request_10 ?_
    refine lv_icmp_ge (tgt := 24) hx hb dX4_request_13 (by decide) (fun c_2 => ?_) (fun c_2 => ?_)
    · replace hf := pI_t c_2 hf
      refine lv_aload_n hx hb dX4_request_24 rfl (lv_at hl 0 rfl) ?_
      refine va_get (D := D) (ci := 3) (v := .ref a15) (C := RX4) (T := TX4) (N := 11) hx hb hts inX4_request_X4 hown hK hP 0 rfl rfl 2 (by decide) (hts (.fieldLink RX4 28 "BlockCache" "requests" "LBlockCache$Queue;") (by decide +kernel)) (fun _ h9 => h9) rfl dX4_request_25 ?_
      obtain ⟨z_3, hz_3, hf⟩ := pLet_out hf
      refine gI (w' := (wB a0 a1 a2 a3 a4 a5 a6 a7 a8 a9 a10 a11 a12 a13 a14 a15 a16 cI u)) (va_runV (As := []) (rest := []) ⟨hx, hb, hml, hown, hts⟩ (ctX3_isFull l D cI a15 a16 16 (gB_requests u) z_3 hz_3.symm H.size) (cwV 0 hts gX4_request_X3_isFull rfl rfl rfl (by decide +kernel) ⟨Nat.le_of_ble_eq_true rfl, Nat.le_of_ble_eq_true rfl⟩) (gPreV (ci := 2) (C := RX3) (T := TX3) (N := 3) hP hK hD [15, 16] (by decide) rfl 15 rfl rfl) rfl rfl hl.1 rfl (lv_room (Nat.le_of_ble_eq_true rfl)) dX4_request_28 ⟨Nat.le_of_ble_eq_true rfl, Nat.le_of_ble_eq_true rfl⟩) hP hD hS hA [15, 16] [0, 1, 2, 3, 4, 5, 6, 7, 8, 9, 10, 11, 12, 13, 14] [0, 1, 2, 3, 4, 5, 6, 7, 8, 9, 10, 11, 12, 13, 14, 15, 16] rfl rfl (by decide) (by decide) rfl (by decide) (fun H locs hP hD hS => ?_)
      refine lv_if_eq (tgt := 42) hx hb dX4_request_31 (by decide) (fun c_4 => ?_) (fun c_4 => ?_)
      · replace hf := pI_t c_4 hf
        refine lv_aload_n hx hb dX4_request_42 rfl (lv_at hl 0 rfl) ?_
        refine va_get (D := D) (ci := 3) (v := .ref a15) (C := RX4) (T := TX4) (N := 11) hx hb hts inX4_request_X4 hown hK hP 0 rfl rfl 2 (by decide) (hts (.fieldLink RX4 28 "BlockCache" "requests" "LBlockCache$Queue;") (by decide +kernel)) (fun _ h9 => h9) rfl dX4_request_43 ?_
        refine lv_iload_n hx hb dX4_request_46 rfl (lv_at hl 1 rfl) ?_
        obtain ⟨z_5, hz_5, hf⟩ := pB_out hf
        obtain ⟨u_6, eu_6, hf⟩ := pLet_out hf
        refine gV (w' := (wB a0 a1 a2 a3 a4 a5 a6 a7 a8 a9 a10 a11 a12 a13 a14 a15 a16 cI u_6)) (va_runV (As := [.int x1]) (rest := []) ⟨hx, hb, hml, hown, hts⟩ (ctX3_append l D cI a15 a16 16 (gB_requests u) x1 z_5 hz_5 H.size) (cwV 1 hts gX4_request_X3_append rfl rfl rfl (by decide +kernel) ⟨Nat.le_of_ble_eq_true rfl, Nat.le_of_ble_eq_true rfl⟩) (gPreV (ci := 2) (C := RX3) (T := TX3) (N := 3) hP hK hD [15, 16] (by decide) rfl 15 rfl rfl) rfl rfl hl.1 rfl (lv_room (Nat.le_of_ble_eq_true rfl)) dX4_request_47 ⟨Nat.le_of_ble_eq_true rfl, Nat.le_of_ble_eq_true rfl⟩) hP hD hS hA [15, 16] [0, 1, 2, 3, 4, 5, 6, 7, 8, 9, 10, 11, 12, 13, 14] [0, 1, 2, 3, 4, 5, 6, 7, 8, 9, 10, 11, 12, 13, 14, 15, 16] rfl rfl (by decide) (by decide) (by rw [eu_6]; rfl) (by decide) (fun H locs hP hD hS => ?_)
        refine lv_aload_n hx hb dX4_request_50 rfl (lv_at hl 0 rfl) ?_
        refine lv_iload_n hx hb dX4_request_51 rfl (lv_at hl 1 rfl) ?_
        refine va_put (D := D) (ci := 3) (v := .int x1) (ty := .int) (C := RX4) (T := TX4) (N := 11) hx hb hts inX4_request_X4 tyX4 tyX4_ok nmX4 hown hK hP hD hS 0 rfl rfl 3 (by decide) (hts (.fieldLink RX4 32 "BlockCache" "latestRequest" "I") (by decide +kernel)) (fun _ h9 => h9) rfl (by decide +kernel) rfl rfl (Nat.le_of_ble_eq_true rfl) dX4_request_52 (fun H locs hP hD hS => ?_)
        obtain ⟨u_7, eu_7, hf⟩ := pLet_out hf
        replace hP : va_P D vwCl (wB a0 a1 a2 a3 a4 a5 a6 a7 a8 a9 a10 a11 a12 a13 a14 a15 a16 cI u_7) H := by rw [eu_7]; exact hP
        replace hD : va_D A (wB a0 a1 a2 a3 a4 a5 a6 a7 a8 a9 a10 a11 a12 a13 a14 a15 a16 cI u_7) := by rw [eu_7]; exact hD
        refine lv_aload_n hx hb dX4_request_55 rfl (lv_at hl 0 rfl) ?_
        refine va_get (D := D) (ci := 3) (v := .ref a15) (C := RX4) (T := TX4) (N := 11) hx hb hts inX4_request_X4 hown hK hP 0 rfl rfl 2 (by decide) (hts (.fieldLink RX4 28 "BlockCache" "requests" "LBlockCache$Queue;") (by decide +kernel)) (fun _ h9 => h9) rfl dX4_request_56 ?_
        refine va_get (D := D) (ci := 2) (v := .int (gQ_many (gB_requests u_7))) (C := RX3) (T := TX3) (N := 3) hx hb hts inX4_request_X3 hown hK hP 15 rfl rfl 2 (by decide) (hts (.fieldLink RX4 76 "BlockCache$Queue" "many" "I") (by decide +kernel)) (fun _ h9 => h9) rfl dX4_request_59 ?_
        have hz := Option.some.inj hf
        subst hz
        exact gRetIk hx hb hr hlocks hK hP hD hS rfl rfl rfl dX4_request_62 (by decide) (by decide)
      · replace hf := pI_f c_4 hf
        have hz := Option.some.inj hf
        subst hz
        exact gThrow (cls := "java/lang/IllegalStateException") (names := ["java/lang/RuntimeException", "java/lang/Exception"]) (ik := 70) (ic := 72) CX hx hb (hl.1.trans hml.symm) hlocks hown hts hK hP hD hS (by decide) (by decide) (by decide +kernel) (by decide +kernel) xaX4_request_2 xn72 xg72 dX4_request_34 dX4_request_37 dX4_request_38 dX4_request_41 (by decide) (by decide) (by decide) (by decide) rfl rfl
    · replace hf := pI_f c_2 hf
      exact wkX4_request_b16 C0 CX _ _ H locs ls hf hP hD hS (lv_sub hl [] rfl)
theorem ctX4_request (l : Launch) (htr : l.stackTraces = false) (D : va_G) (cI : ClassId) (a0 a1 a2 a3 a4 a5 a6 a7 a8 a9 a10 a11 a12 a13 a14 a15 a16 : Nat) (u : TB) (x1 : Int32) (z : Int32 × Int32 × TB) (hz : fX4_request u x1 = some z) : CtXI l yX4_request wsX4_request rmX4_request D vwCl [(cI, .int)] [.ref a0, .int x1] (wB a0 a1 a2 a3 a4 a5 a6 a7 a8 a9 a10 a11 a12 a13 a14 a15 a16 cI u) z.1 z.2.1 (wB a0 a1 a2 a3 a4 a5 a6 a7 a8 a9 a10 a11 a12 a13 a14 a15 a16 cI z.2.2) :=
  ctXI_of (cc := cX4_request) (maxL := 2) (ret := (some .int)) htr (by decide) rfl (Nat.le_of_ble_eq_true rfl) (fun p e s m below meth c A ls C CX hl hP hD hS => wkX4_request C CX z _ _ s.heap [] ls hz hP hD hS hl)
abbrev rmX4_room : Room := { frames := 6, cells := 1, slots := 6, locals := 81 }
theorem inX4_room_X0 : ∀ w ∈ wsX00, w ∈ wsX4_room := by decide +kernel
theorem inX4_room_X4 : ∀ w ∈ wsX40, w ∈ wsX4_room := by decide +kernel
theorem xaX4_room_1 : ∀ w ∈ (vx_at0 RX4 45 "java/lang/IllegalArgumentException" ["java/lang/RuntimeException", "java/lang/Exception"]).filter goodWord, w ∈ wsX4_room := by decide +kernel
set_option maxRecDepth 100000 in
set_option maxHeartbeats 4000000 in
theorem wkX4_room_b12 {p : Program} {l : Launch} {e : Env} {s : State} {m : MethodId} {args : Array Value} {below : List Frame} {meth : Method} {c : Code} {D : va_G} {cI : ClassId} {A : Nat → Prop} {a0 a1 a2 a3 a4 a5 a6 a7 a8 a9 a10 a11 a12 a13 a14 a15 a16 : Nat} (C : cxt p s m args meth c cX4_room none 2 RX4 wsX4_room D vwCl [(cI, .int)] A) (CX : cxX l s c A) : ∀ (z : Int32 × TB) (u : TB) (H : Heap) (locs : List Loc) (ls : Array Slot), fX4_room_b12 u = some z → va_P D vwCl (wB a0 a1 a2 a3 a4 a5 a6 a7 a8 a9 a10 a11 a12 a13 a14 a15 a16 cI u) H → va_D A (wB a0 a1 a2 a3 a4 a5 a6 a7 a8 a9 a10 a11 a12 a13 a14 a15 a16 cI u) → va_S A s.heap H locs → lv_has ls 2 [] → W p l e rmX4_room s m args below meth c H locs 0 0 (vx_MQ below (oVk D vwCl [(cI, .int)] A z.1 (wB a0 a1 a2 a3 a4 a5 a6 a7 a8 a9 a10 a11 a12 a13 a14 a15 a16 cI z.2)) (oX D vwCl [(cI, .int)] A z.1 (wB a0 a1 a2 a3 a4 a5 a6 a7 a8 a9 a10 a11 a12 a13 a14 a15 a16 cI z.2)) args s 1 6 A) (F0 m 12 ls []) := by
  have C0 := C
  obtain ⟨hx, hb, hr, hml, hown, hts, hlocks, hK, hA⟩ := C
  intro z u H locs ls hf hP hD hS hl
  unfold fX4_room_b12 at hf
  have hz := Option.some.inj hf
  subst hz
  exact gThrow (cls := "java/lang/IllegalArgumentException") (names := ["java/lang/RuntimeException", "java/lang/Exception"]) (ik := 43) (ic := 45) CX hx hb (hl.1.trans hml.symm) hlocks hown hts hK hP hD hS (by decide) (by decide) (by decide +kernel) (by decide +kernel) xaX4_room_1 xn45 xg45 dX4_room_12 dX4_room_15 dX4_room_16 dX4_room_19 (by decide) (by decide) (by decide) (by decide) rfl rfl
set_option maxRecDepth 100000 in
set_option maxHeartbeats 4000000 in
theorem wkX4_room {p : Program} {l : Launch} {e : Env} {s : State} {m : MethodId} {args : Array Value} {below : List Frame} {meth : Method} {c : Code} {D : va_G} {cI : ClassId} {A : Nat → Prop} {a0 a1 a2 a3 a4 a5 a6 a7 a8 a9 a10 a11 a12 a13 a14 a15 a16 : Nat} (C : cxt p s m args meth c cX4_room none 2 RX4 wsX4_room D vwCl [(cI, .int)] A) (CX : cxX l s c A) : ∀ (z : Int32 × TB) (u : TB) (x1 : Int32) (H : Heap) (locs : List Loc) (ls : Array Slot), fX4_room u x1 = some z → va_P D vwCl (wB a0 a1 a2 a3 a4 a5 a6 a7 a8 a9 a10 a11 a12 a13 a14 a15 a16 cI u) H → va_D A (wB a0 a1 a2 a3 a4 a5 a6 a7 a8 a9 a10 a11 a12 a13 a14 a15 a16 cI u) → va_S A s.heap H locs → lv_has ls 2 [(0, .ref a0), (1, .int x1)] → W p l e rmX4_room s m args below meth c H locs 0 0 (vx_MQ below (oVk D vwCl [(cI, .int)] A z.1 (wB a0 a1 a2 a3 a4 a5 a6 a7 a8 a9 a10 a11 a12 a13 a14 a15 a16 cI z.2)) (oX D vwCl [(cI, .int)] A z.1 (wB a0 a1 a2 a3 a4 a5 a6 a7 a8 a9 a10 a11 a12 a13 a14 a15 a16 cI z.2)) args s 1 6 A) (F0 m 0 ls []) := by
  have C0 := C
  obtain ⟨hx, hb, hr, hml, hown, hts, hlocks, hK, hA⟩ := C
  intro z u x1 H locs ls hf hP hD hS hl
  unfold fX4_room at hf
  refine lv_iload_n hx hb dX4_room_0 rfl (lv_at hl 1 rfl) ?_
  refine lv_iconst (v := 1) hx hb dX4_room_1 (by decide) ?_
  refine lv_icmp_lt (tgt := 12) hx hb dX4_room_2 (by decide) (fun c_1 => ?_) (fun c_1 => ?_)
  · replace hf := pI_t c_1 hf
    exact wkX4_room_b12 C0 CX _ _ H locs ls hf hP hD hS (lv_sub hl [] rfl)
  · replace hf := pI_f c_1 hf
    refine lv_iload_n hx hb dX4_room_5 rfl (lv_at hl 1 rfl) ?_
    refine lv_sipush (v := 400) hx hb dX4_room_6 (by decide) ?_
    refine lv_icmp_le (tgt := 20) hx hb dX4_room_9 (by decide) (fun c_2 => ?_) (fun c_2 => ?_)
    · replace hf := pI_t c_2 hf
      refine lv_aload_n hx hb dX4_room_20 rfl (lv_at hl 0 rfl) ?_
      refine va_get (D := D) (ci := 3) (v := .ref a7) (C := RX4) (T := TX4) (N := 11) hx hb hts inX4_room_X4 hown hK hP 0 rfl rfl 1 (by decide) (hts (.fieldLink RX4 19 "BlockCache" "cache" "LBlockCache$Cache;") (by decide +kernel)) (fun _ h9 => h9) rfl dX4_room_21 ?_
      refine lv_iload_n hx hb dX4_room_24 rfl (lv_at hl 1 rfl) ?_
      refine va_put (D := D) (ci := 0) (v := .int x1) (ty := .int) (C := RX0) (T := TX0) (N := 13) hx hb hts inX4_room_X0 tyX0 tyX0_ok nmX0 hown hK hP hD hS 7 rfl rfl 7 (by decide) (hts (.fieldLink RX4 82 "BlockCache$Cache" "limit" "I") (by decide +kernel)) (fun _ h9 => h9) rfl (by decide +kernel) rfl rfl (Nat.le_of_ble_eq_true rfl) dX4_room_25 (fun H locs hP hD hS => ?_)
      obtain ⟨u_3, eu_3, hf⟩ := pLet_out hf
      replace hP : va_P D vwCl (wB a0 a1 a2 a3 a4 a5 a6 a7 a8 a9 a10 a11 a12 a13 a14 a15 a16 cI u_3) H := by rw [eu_3]; exact hP
      replace hD : va_D A (wB a0 a1 a2 a3 a4 a5 a6 a7 a8 a9 a10 a11 a12 a13 a14 a15 a16 cI u_3) := by rw [eu_3]; exact hD
      refine lv_aload_n hx hb dX4_room_28 rfl (lv_at hl 0 rfl) ?_
      refine va_get (D := D) (ci := 3) (v := .ref a7) (C := RX4) (T := TX4) (N := 11) hx hb hts inX4_room_X4 hown hK hP 0 rfl rfl 1 (by decide) (hts (.fieldLink RX4 19 "BlockCache" "cache" "LBlockCache$Cache;") (by decide +kernel)) (fun _ h9 => h9) rfl dX4_room_29 ?_
      obtain ⟨z_4, hz_4, hf⟩ := pB_out hf
      obtain ⟨u_5, eu_5, hf⟩ := pLet_out hf
      refine gV (w' := (wB a0 a1 a2 a3 a4 a5 a6 a7 a8 a9 a10 a11 a12 a13 a14 a15 a16 cI u_5)) (va_runV (As := []) (rest := []) ⟨hx, hb, hml, hown, hts⟩ (ctX0_empty l D cI a7 a8 a9 a10 a11 a12 a13 a14 (gB_cache u_3) z_4 hz_4 H.size) (cwV 0 hts gX4_room_X0_empty rfl rfl rfl (by decide +kernel) ⟨Nat.le_of_ble_eq_true rfl, Nat.le_of_ble_eq_true rfl⟩) (gPreV (ci := 0) (C := RX0) (T := TX0) (N := 13) hP hK hD [7, 8, 9, 10, 11, 12, 13, 14] (by decide) rfl 7 rfl rfl) rfl rfl hl.1 rfl (lv_room (Nat.le_of_ble_eq_true rfl)) dX4_room_32 ⟨Nat.le_of_ble_eq_true rfl, Nat.le_of_ble_eq_true rfl⟩) hP hD hS hA [7, 8, 9, 10, 11, 12, 13, 14] [0, 1, 2, 3, 4, 5, 6, 15, 16] [0, 1, 2, 3, 4, 5, 6, 9, 10, 11, 12, 13, 14, 15, 16, 7, 8] rfl rfl (by decide) (by decide) (by rw [eu_5]; rfl) (by decide) (fun H locs hP hD hS => ?_)
      have hz := Option.some.inj hf
      subst hz
      exact gRetVk hx hb hr hlocks hK hP hD hS rfl rfl dX4_room_35 (by decide) (by decide)
    · replace hf := pI_f c_2 hf
      exact wkX4_room_b12 C0 CX _ _ H locs ls hf hP hD hS (lv_sub hl [] rfl)
theorem ctX4_room (l : Launch) (htr : l.stackTraces = false) (D : va_G) (cI : ClassId) (a0 a1 a2 a3 a4 a5 a6 a7 a8 a9 a10 a11 a12 a13 a14 a15 a16 : Nat) (u : TB) (x1 : Int32) (z : Int32 × TB) (hz : fX4_room u x1 = some z) : CtXV l yX4_room wsX4_room rmX4_room D vwCl [(cI, .int)] [.ref a0, .int x1] (wB a0 a1 a2 a3 a4 a5 a6 a7 a8 a9 a10 a11 a12 a13 a14 a15 a16 cI u) z.1 (wB a0 a1 a2 a3 a4 a5 a6 a7 a8 a9 a10 a11 a12 a13 a14 a15 a16 cI z.2) :=
  ctXV_of (cc := cX4_room) (maxL := 2) (ret := none) htr (by decide) rfl (Nat.le_of_ble_eq_true rfl) (fun p e s m below meth c A ls C CX hl hP hD hS => wkX4_room C CX z _ _ s.heap [] ls hz hP hD hS hl)
abbrev rmX4_dropWritten : Room := { frames := 2, cells := 0, slots := 0, locals := 48 }
theorem inX4_dropWritten_X2 : ∀ w ∈ wsX20, w ∈ wsX4_dropWritten := by decide +kernel
theorem inX4_dropWritten_X4 : ∀ w ∈ wsX40, w ∈ wsX4_dropWritten := by decide +kernel
set_option maxRecDepth 100000 in
set_option maxHeartbeats 4000000 in
theorem wkX4_dropWritten {p : Program} {l : Launch} {e : Env} {s : State} {m : MethodId} {args : Array Value} {below : List Frame} {meth : Method} {c : Code} {D : va_G} {cI : ClassId} {A : Nat → Prop} {a0 a1 a2 a3 a4 a5 a6 a7 a8 a9 a10 a11 a12 a13 a14 a15 a16 : Nat} (C : cxt p s m args meth c cX4_dropWritten none 1 RX4 wsX4_dropWritten D vwCl [(cI, .int)] A) : ∀ (z : TB) (u : TB) (H : Heap) (locs : List Loc) (ls : Array Slot), fX4_dropWritten u = some z → va_P D vwCl (wB a0 a1 a2 a3 a4 a5 a6 a7 a8 a9 a10 a11 a12 a13 a14 a15 a16 cI u) H → va_D A (wB a0 a1 a2 a3 a4 a5 a6 a7 a8 a9 a10 a11 a12 a13 a14 a15 a16 cI u) → va_S A s.heap H locs → lv_has ls 1 [(0, .ref a0)] → W p l e rmX4_dropWritten s m args below meth c H locs 0 0 (MQ below (oV D vwCl [(cI, .int)] A (wB a0 a1 a2 a3 a4 a5 a6 a7 a8 a9 a10 a11 a12 a13 a14 a15 a16 cI z)) args s 0 0 A) (F0 m 0 ls []) := by
  have C0 := C
  obtain ⟨hx, hb, hr, hml, hown, hts, hlocks, hK, hA⟩ := C
  intro z u H locs ls hf hP hD hS hl
  unfold fX4_dropWritten at hf
  refine lv_aload_n hx hb dX4_dropWritten_0 rfl (lv_at hl 0 rfl) ?_
  refine va_get (D := D) (ci := 3) (v := .ref a1) (C := RX4) (T := TX4) (N := 11) hx hb hts inX4_dropWritten_X4 hown hK hP 0 rfl rfl 0 (by decide) (hts (.fieldLink RX4 10 "BlockCache" "guest" "LBlockCache$Guest;") (by decide +kernel)) (fun _ h9 => h9) rfl dX4_dropWritten_1 ?_
  refine va_get (D := D) (ci := 1) (v := .int (gG_written (gB_guest u))) (C := RX2) (T := TX2) (N := 6) hx hb hts inX4_dropWritten_X2 hown hK hP 1 rfl rfl 5 (by decide) (hts (.fieldLink RX4 201 "BlockCache$Guest" "written" "I") (by decide +kernel)) (fun _ h9 => h9) rfl dX4_dropWritten_4 ?_
  refine lv_iconst (v := (-1)) hx hb dX4_dropWritten_7 (by decide) ?_
  refine lv_icmp_eq (tgt := 45) hx hb dX4_dropWritten_8 (by decide) (fun c_1 => ?_) (fun c_1 => ?_)
  · replace hf := pI_t c_1 hf
    have hz := Option.some.inj hf
    subst hz
    exact gRetV hx hb hr hlocks hK hP hD hS rfl dX4_dropWritten_45
  · replace hf := pI_f c_1 hf
    refine lv_aload_n hx hb dX4_dropWritten_11 rfl (lv_at hl 0 rfl) ?_
    refine lv_dup hx hb dX4_dropWritten_12 rfl ?_
    refine va_get (D := D) (ci := 3) (v := .int (gB_invalidated u)) (C := RX4) (T := TX4) (N := 11) hx hb hts inX4_dropWritten_X4 hown hK hP 0 rfl rfl 5 (by decide) (hts (.fieldLink RX4 106 "BlockCache" "invalidated" "I") (by decide +kernel)) (fun _ h9 => h9) rfl dX4_dropWritten_13 ?_
    refine lv_aload_n hx hb dX4_dropWritten_16 rfl (lv_at hl 0 rfl) ?_
    refine va_get (D := D) (ci := 3) (v := .ref a7) (C := RX4) (T := TX4) (N := 11) hx hb hts inX4_dropWritten_X4 hown hK hP 0 rfl rfl 1 (by decide) (hts (.fieldLink RX4 19 "BlockCache" "cache" "LBlockCache$Cache;") (by decide +kernel)) (fun _ h9 => h9) rfl dX4_dropWritten_17 ?_
    refine lv_aload_n hx hb dX4_dropWritten_20 rfl (lv_at hl 0 rfl) ?_
    refine va_get (D := D) (ci := 3) (v := .ref a1) (C := RX4) (T := TX4) (N := 11) hx hb hts inX4_dropWritten_X4 hown hK hP 0 rfl rfl 0 (by decide) (hts (.fieldLink RX4 10 "BlockCache" "guest" "LBlockCache$Guest;") (by decide +kernel)) (fun _ h9 => h9) rfl dX4_dropWritten_21 ?_
    refine va_get (D := D) (ci := 1) (v := .int (gG_written (gB_guest u))) (C := RX2) (T := TX2) (N := 6) hx hb hts inX4_dropWritten_X2 hown hK hP 1 rfl rfl 5 (by decide) (hts (.fieldLink RX4 201 "BlockCache$Guest" "written" "I") (by decide +kernel)) (fun _ h9 => h9) rfl dX4_dropWritten_24 ?_
    refine lv_bipush (v := 32) hx hb dX4_dropWritten_27 (by decide) ?_
    refine lv_idiv hx hb dX4_dropWritten_29 (by decide) ?_
    obtain ⟨z_2, hz_2, hf⟩ := pB_out hf
    obtain ⟨u_3, eu_3, hf⟩ := pLet_out hf
    refine gI (w' := (wB a0 a1 a2 a3 a4 a5 a6 a7 a8 a9 a10 a11 a12 a13 a14 a15 a16 cI u_3)) (va_runV (As := [.int ((gG_written (gB_guest u)) / 32)]) (rest := [.int (gB_invalidated u), .ref a0]) ⟨hx, hb, hml, hown, hts⟩ (ctX0_dropPage l D cI a7 a8 a9 a10 a11 a12 a13 a14 (gB_cache u) ((gG_written (gB_guest u)) / 32) z_2 hz_2 H.size) (cwV 1 hts gX4_dropWritten_X0_dropPage rfl rfl rfl (by decide +kernel) ⟨Nat.le_of_ble_eq_true rfl, Nat.le_of_ble_eq_true rfl⟩) (gPreV (ci := 0) (C := RX0) (T := TX0) (N := 13) hP hK hD [7, 8, 9, 10, 11, 12, 13, 14] (by decide) rfl 7 rfl rfl) rfl rfl hl.1 rfl (lv_room (Nat.le_of_ble_eq_true rfl)) dX4_dropWritten_30 ⟨Nat.le_of_ble_eq_true rfl, Nat.le_of_ble_eq_true rfl⟩) hP hD hS hA [7, 8, 9, 10, 11, 12, 13, 14] [0, 1, 2, 3, 4, 5, 6, 15, 16] [0, 1, 2, 3, 4, 5, 6, 9, 10, 11, 12, 13, 14, 15, 16, 7, 8] rfl rfl (by decide) (by decide) (by rw [eu_3]; rfl) (by decide) (fun H locs hP hD hS => ?_)
    refine lv_iadd hx hb dX4_dropWritten_33 ?_
    refine va_put (D := D) (ci := 3) (v := .int ((gB_invalidated u) + z_2.1)) (ty := .int) (C := RX4) (T := TX4) (N := 11) hx hb hts inX4_dropWritten_X4 tyX4 tyX4_ok nmX4 hown hK hP hD hS 0 rfl rfl 5 (by decide) (hts (.fieldLink RX4 106 "BlockCache" "invalidated" "I") (by decide +kernel)) (fun _ h9 => h9) rfl (by decide +kernel) rfl rfl (Nat.le_of_ble_eq_true rfl) dX4_dropWritten_34 (fun H locs hP hD hS => ?_)
    obtain ⟨u_4, eu_4, hf⟩ := pLet_out hf
    replace hP : va_P D vwCl (wB a0 a1 a2 a3 a4 a5 a6 a7 a8 a9 a10 a11 a12 a13 a14 a15 a16 cI u_4) H := by rw [eu_4]; exact hP
    replace hD : va_D A (wB a0 a1 a2 a3 a4 a5 a6 a7 a8 a9 a10 a11 a12 a13 a14 a15 a16 cI u_4) := by rw [eu_4]; exact hD
    refine lv_aload_n hx hb dX4_dropWritten_37 rfl (lv_at hl 0 rfl) ?_
    refine va_get (D := D) (ci := 3) (v := .ref a1) (C := RX4) (T := TX4) (N := 11) hx hb hts inX4_dropWritten_X4 hown hK hP 0 rfl rfl 0 (by decide) (hts (.fieldLink RX4 10 "BlockCache" "guest" "LBlockCache$Guest;") (by decide +kernel)) (fun _ h9 => h9) rfl dX4_dropWritten_38 ?_
    refine lv_iconst (v := (-1)) hx hb dX4_dropWritten_41 (by decide) ?_
    refine va_put (D := D) (ci := 1) (v := .int (-1)) (ty := .int) (C := RX2) (T := TX2) (N := 6) hx hb hts inX4_dropWritten_X2 tyX2 tyX2_ok nmX2 hown hK hP hD hS 1 rfl rfl 5 (by decide) (hts (.fieldLink RX4 201 "BlockCache$Guest" "written" "I") (by decide +kernel)) (fun _ h9 => h9) rfl (by decide +kernel) rfl rfl (Nat.le_of_ble_eq_true rfl) dX4_dropWritten_42 (fun H locs hP hD hS => ?_)
    obtain ⟨u_5, eu_5, hf⟩ := pLet_out hf
    replace hP : va_P D vwCl (wB a0 a1 a2 a3 a4 a5 a6 a7 a8 a9 a10 a11 a12 a13 a14 a15 a16 cI u_5) H := by rw [eu_5]; exact hP
    replace hD : va_D A (wB a0 a1 a2 a3 a4 a5 a6 a7 a8 a9 a10 a11 a12 a13 a14 a15 a16 cI u_5) := by rw [eu_5]; exact hD
    have hz := Option.some.inj hf
    subst hz
    exact gRetV hx hb hr hlocks hK hP hD hS rfl dX4_dropWritten_45
theorem ctX4_dropWritten (l : Launch) (D : va_G) (cI : ClassId) (a0 a1 a2 a3 a4 a5 a6 a7 a8 a9 a10 a11 a12 a13 a14 a15 a16 : Nat) (u : TB) (z : TB) (hz : fX4_dropWritten u = some z) : CtV l yX4_dropWritten wsX4_dropWritten rmX4_dropWritten D vwCl [(cI, .int)] [.ref a0] (wB a0 a1 a2 a3 a4 a5 a6 a7 a8 a9 a10 a11 a12 a13 a14 a15 a16 cI u) (wB a0 a1 a2 a3 a4 a5 a6 a7 a8 a9 a10 a11 a12 a13 a14 a15 a16 cI z) :=
  ctV_of (cc := cX4_dropWritten) (maxL := 1) (ret := none) (by decide) rfl (Nat.le_of_ble_eq_true rfl) (fun p e s m below meth c A ls C hl hP hD hS => wkX4_dropWritten C z _ s.heap [] ls hz hP hD hS hl)
abbrev rmX4_interruptIfDue : Room := { frames := 3, cells := 0, slots := 0, locals := 68 }
theorem inX4_interruptIfDue_X2 : ∀ w ∈ wsX20, w ∈ wsX4_interruptIfDue := by decide +kernel
theorem inX4_interruptIfDue_X3 : ∀ w ∈ wsX30, w ∈ wsX4_interruptIfDue := by decide +kernel
theorem inX4_interruptIfDue_X4 : ∀ w ∈ wsX40, w ∈ wsX4_interruptIfDue := by decide +kernel
set_option maxRecDepth 100000 in
set_option maxHeartbeats 4000000 in
theorem wkX4_interruptIfDue {p : Program} {l : Launch} {e : Env} {s : State} {m : MethodId} {args : Array Value} {below : List Frame} {meth : Method} {c : Code} {D : va_G} {cI : ClassId} {A : Nat → Prop} {a0 a1 a2 a3 a4 a5 a6 a7 a8 a9 a10 a11 a12 a13 a14 a15 a16 : Nat} (C : cxt p s m args meth c cX4_interruptIfDue none 1 RX4 wsX4_interruptIfDue D vwCl [(cI, .int)] A) : ∀ (z : TB) (u : TB) (H : Heap) (locs : List Loc) (ls : Array Slot), fX4_interruptIfDue u = some z → va_P D vwCl (wB a0 a1 a2 a3 a4 a5 a6 a7 a8 a9 a10 a11 a12 a13 a14 a15 a16 cI u) H → va_D A (wB a0 a1 a2 a3 a4 a5 a6 a7 a8 a9 a10 a11 a12 a13 a14 a15 a16 cI u) → va_S A s.heap H locs → lv_has ls 1 [(0, .ref a0)] → W p l e rmX4_interruptIfDue s m args below meth c H locs 0 0 (MQ below (oV D vwCl [(cI, .int)] A (wB a0 a1 a2 a3 a4 a5 a6 a7 a8 a9 a10 a11 a12 a13 a14 a15 a16 cI z)) args s 0 0 A) (F0 m 0 ls []) := by
  have C0 := C
  obtain ⟨hx, hb, hr, hml, hown, hts, hlocks, hK, hA⟩ := C
  intro z u H locs ls hf hP hD hS hl
  unfold fX4_interruptIfDue at hf
  refine lv_aload_n hx hb dX4_interruptIfDue_0 rfl (lv_at hl 0 rfl) ?_
  refine va_get (D := D) (ci := 3) (v := .ref a1) (C := RX4) (T := TX4) (N := 11) hx hb hts inX4_interruptIfDue_X4 hown hK hP 0 rfl rfl 0 (by decide) (hts (.fieldLink RX4 10 "BlockCache" "guest" "LBlockCache$Guest;") (by decide +kernel)) (fun _ h9 => h9) rfl dX4_interruptIfDue_1 ?_
  refine va_get (D := D) (ci := 1) (v := .ref a2) (C := RX2) (T := TX2) (N := 6) hx hb hts inX4_interruptIfDue_X2 hown hK hP 1 rfl rfl 0 (by decide) (hts (.fieldLink RX4 60 "BlockCache$Guest" "state" "[I") (by decide +kernel)) (fun _ h9 => h9) rfl dX4_interruptIfDue_4 ?_
  refine lv_bipush (v := 8) hx hb dX4_interruptIfDue_7 (by decide) ?_
  obtain ⟨h_1, hf⟩ := pIn_out hf
  refine va_iald hx hb hK hP 2 0 rfl rfl h_1 dX4_interruptIfDue_9 ?_
  refine lv_if_eq (tgt := 37) hx hb dX4_interruptIfDue_10 (by decide) (fun c_2 => ?_) (fun c_2 => ?_)
  · replace hf := pI_t c_2 hf
    have hz := Option.some.inj hf
    subst hz
    exact gRetV hx hb hr hlocks hK hP hD hS rfl dX4_interruptIfDue_37
  · replace hf := pI_f c_2 hf
    refine lv_aload_n hx hb dX4_interruptIfDue_13 rfl (lv_at hl 0 rfl) ?_
    refine va_get (D := D) (ci := 3) (v := .ref a15) (C := RX4) (T := TX4) (N := 11) hx hb hts inX4_interruptIfDue_X4 hown hK hP 0 rfl rfl 2 (by decide) (hts (.fieldLink RX4 28 "BlockCache" "requests" "LBlockCache$Queue;") (by decide +kernel)) (fun _ h9 => h9) rfl dX4_interruptIfDue_14 ?_
    refine va_get (D := D) (ci := 2) (v := .int (gQ_many (gB_requests u))) (C := RX3) (T := TX3) (N := 3) hx hb hts inX4_interruptIfDue_X3 hown hK hP 15 rfl rfl 2 (by decide) (hts (.fieldLink RX4 76 "BlockCache$Queue" "many" "I") (by decide +kernel)) (fun _ h9 => h9) rfl dX4_interruptIfDue_17 ?_
    refine lv_if_eq (tgt := 37) hx hb dX4_interruptIfDue_20 (by decide) (fun c_3 => ?_) (fun c_3 => ?_)
    · replace hf := pI_t c_3 hf
      have hz := Option.some.inj hf
      subst hz
      exact gRetV hx hb hr hlocks hK hP hD hS rfl dX4_interruptIfDue_37
    · replace hf := pI_f c_3 hf
      refine lv_aload_n hx hb dX4_interruptIfDue_23 rfl (lv_at hl 0 rfl) ?_
      refine va_get (D := D) (ci := 3) (v := .ref a15) (C := RX4) (T := TX4) (N := 11) hx hb hts inX4_interruptIfDue_X4 hown hK hP 0 rfl rfl 2 (by decide) (hts (.fieldLink RX4 28 "BlockCache" "requests" "LBlockCache$Queue;") (by decide +kernel)) (fun _ h9 => h9) rfl dX4_interruptIfDue_24 ?_
      obtain ⟨z_4, hz_4, hf⟩ := pB_out hf
      refine gI (w' := (wB a0 a1 a2 a3 a4 a5 a6 a7 a8 a9 a10 a11 a12 a13 a14 a15 a16 cI u)) (va_runV (As := []) (rest := []) ⟨hx, hb, hml, hown, hts⟩ (ctX3_first l D cI a15 a16 16 (gB_requests u) z_4 hz_4 H.size) (cwV 0 hts gX4_interruptIfDue_X3_first rfl rfl rfl (by decide +kernel) ⟨Nat.le_of_ble_eq_true rfl, Nat.le_of_ble_eq_true rfl⟩) (gPreV (ci := 2) (C := RX3) (T := TX3) (N := 3) hP hK hD [15, 16] (by decide) rfl 15 rfl rfl) rfl rfl hl.1 rfl (lv_room (Nat.le_of_ble_eq_true rfl)) dX4_interruptIfDue_27 ⟨Nat.le_of_ble_eq_true rfl, Nat.le_of_ble_eq_true rfl⟩) hP hD hS hA [15, 16] [0, 1, 2, 3, 4, 5, 6, 7, 8, 9, 10, 11, 12, 13, 14] [0, 1, 2, 3, 4, 5, 6, 7, 8, 9, 10, 11, 12, 13, 14, 15, 16] rfl rfl (by decide) (by decide) rfl (by decide) (fun H locs hP hD hS => ?_)
      refine lv_aload_n hx hb dX4_interruptIfDue_30 rfl (lv_at hl 0 rfl) ?_
      refine va_get (D := D) (ci := 3) (v := .int (gB_executed u)) (C := RX4) (T := TX4) (N := 11) hx hb hts inX4_interruptIfDue_X4 hown hK hP 0 rfl rfl 4 (by decide) (hts (.fieldLink RX4 79 "BlockCache" "executed" "I") (by decide +kernel)) (fun _ h9 => h9) rfl dX4_interruptIfDue_31 ?_
      refine lv_icmp_le (tgt := 38) hx hb dX4_interruptIfDue_34 (by decide) (fun c_5 => ?_) (fun c_5 => ?_)
      · replace hf := pI_t c_5 hf
        refine lv_aload_n hx hb dX4_interruptIfDue_38 rfl (lv_at hl 0 rfl) ?_
        refine va_get (D := D) (ci := 3) (v := .ref a15) (C := RX4) (T := TX4) (N := 11) hx hb hts inX4_interruptIfDue_X4 hown hK hP 0 rfl rfl 2 (by decide) (hts (.fieldLink RX4 28 "BlockCache" "requests" "LBlockCache$Queue;") (by decide +kernel)) (fun _ h9 => h9) rfl dX4_interruptIfDue_39 ?_
        obtain ⟨z_6, hz_6, hf⟩ := pB_out hf
        obtain ⟨u_7, eu_7, hf⟩ := pLet_out hf
        refine gI (w' := (wB a0 a1 a2 a3 a4 a5 a6 a7 a8 a9 a10 a11 a12 a13 a14 a15 a16 cI u_7)) (va_runV (As := []) (rest := []) ⟨hx, hb, hml, hown, hts⟩ (ctX3_takeFirst l D cI a15 a16 16 (gB_requests u) z_6 hz_6 H.size) (cwV 0 hts gX4_interruptIfDue_X3_takeFirst rfl rfl rfl (by decide +kernel) ⟨Nat.le_of_ble_eq_true rfl, Nat.le_of_ble_eq_true rfl⟩) (gPreV (ci := 2) (C := RX3) (T := TX3) (N := 3) hP hK hD [15, 16] (by decide) rfl 15 rfl rfl) rfl rfl hl.1 rfl (lv_room (Nat.le_of_ble_eq_true rfl)) dX4_interruptIfDue_42 ⟨Nat.le_of_ble_eq_true rfl, Nat.le_of_ble_eq_true rfl⟩) hP hD hS hA [15, 16] [0, 1, 2, 3, 4, 5, 6, 7, 8, 9, 10, 11, 12, 13, 14] [0, 1, 2, 3, 4, 5, 6, 7, 8, 9, 10, 11, 12, 13, 14, 15, 16] rfl rfl (by decide) (by decide) (by rw [eu_7]; rfl) (by decide) (fun H locs hP hD hS => ?_)
        refine lv_pop hx hb dX4_interruptIfDue_45 rfl ?_
        refine lv_aload_n hx hb dX4_interruptIfDue_46 rfl (lv_at hl 0 rfl) ?_
        refine lv_dup hx hb dX4_interruptIfDue_47 rfl ?_
        refine va_get (D := D) (ci := 3) (v := .int (gB_interrupts u_7)) (C := RX4) (T := TX4) (N := 11) hx hb hts inX4_interruptIfDue_X4 hown hK hP 0 rfl rfl 8 (by decide) (hts (.fieldLink RX4 118 "BlockCache" "interrupts" "I") (by decide +kernel)) (fun _ h9 => h9) rfl dX4_interruptIfDue_48 ?_
        refine lv_iconst (v := 1) hx hb dX4_interruptIfDue_51 (by decide) ?_
        refine lv_iadd hx hb dX4_interruptIfDue_52 ?_
        refine va_put (D := D) (ci := 3) (v := .int ((gB_interrupts u_7) + 1)) (ty := .int) (C := RX4) (T := TX4) (N := 11) hx hb hts inX4_interruptIfDue_X4 tyX4 tyX4_ok nmX4 hown hK hP hD hS 0 rfl rfl 8 (by decide) (hts (.fieldLink RX4 118 "BlockCache" "interrupts" "I") (by decide +kernel)) (fun _ h9 => h9) rfl (by decide +kernel) rfl rfl (Nat.le_of_ble_eq_true rfl) dX4_interruptIfDue_53 (fun H locs hP hD hS => ?_)
        obtain ⟨u_8, eu_8, hf⟩ := pLet_out hf
        replace hP : va_P D vwCl (wB a0 a1 a2 a3 a4 a5 a6 a7 a8 a9 a10 a11 a12 a13 a14 a15 a16 cI u_8) H := by rw [eu_8]; exact hP
        replace hD : va_D A (wB a0 a1 a2 a3 a4 a5 a6 a7 a8 a9 a10 a11 a12 a13 a14 a15 a16 cI u_8) := by rw [eu_8]; exact hD
        refine lv_aload_n hx hb dX4_interruptIfDue_56 rfl (lv_at hl 0 rfl) ?_
        refine va_get (D := D) (ci := 3) (v := .ref a1) (C := RX4) (T := TX4) (N := 11) hx hb hts inX4_interruptIfDue_X4 hown hK hP 0 rfl rfl 0 (by decide) (hts (.fieldLink RX4 10 "BlockCache" "guest" "LBlockCache$Guest;") (by decide +kernel)) (fun _ h9 => h9) rfl dX4_interruptIfDue_57 ?_
        obtain ⟨z_9, hz_9, hf⟩ := pB_out hf
        obtain ⟨u_10, eu_10, hf⟩ := pLet_out hf
        refine gV (w' := (wB a0 a1 a2 a3 a4 a5 a6 a7 a8 a9 a10 a11 a12 a13 a14 a15 a16 cI u_10)) (va_runV (As := []) (rest := []) ⟨hx, hb, hml, hown, hts⟩ (ctX2_interrupt l D cI a1 a2 a3 a4 a5 a6 (gB_guest u_8) z_9 hz_9 H.size) (cwV 0 hts gX4_interruptIfDue_X2_interrupt rfl rfl rfl (by decide +kernel) ⟨Nat.le_of_ble_eq_true rfl, Nat.le_of_ble_eq_true rfl⟩) (gPreV (ci := 1) (C := RX2) (T := TX2) (N := 6) hP hK hD [1, 2, 3, 4, 5, 6] (by decide) rfl 1 rfl rfl) rfl rfl hl.1 rfl (lv_room (Nat.le_of_ble_eq_true rfl)) dX4_interruptIfDue_60 ⟨Nat.le_of_ble_eq_true rfl, Nat.le_of_ble_eq_true rfl⟩) hP hD hS hA [1, 2, 3, 4, 5, 6] [0, 7, 8, 9, 10, 11, 12, 13, 14, 15, 16] [0, 11, 12, 13, 14, 15, 16, 1, 2, 3, 4, 5, 6, 7, 8, 9, 10] rfl rfl (by decide) (by decide) (by rw [eu_10]; rfl) (by decide) (fun H locs hP hD hS => ?_)
        refine lv_aload_n hx hb dX4_interruptIfDue_63 rfl (lv_at hl 0 rfl) ?_
        obtain ⟨z_11, hz_11, hf⟩ := pB_out hf
        refine gV (w' := (wB a0 a1 a2 a3 a4 a5 a6 a7 a8 a9 a10 a11 a12 a13 a14 a15 a16 cI z_11)) (va_runV (As := []) (rest := []) ⟨hx, hb, hml, hown, hts⟩ (ctX4_dropWritten l D cI a0 a1 a2 a3 a4 a5 a6 a7 a8 a9 a10 a11 a12 a13 a14 a15 a16 u_10 z_11 hz_11 H.size) (cwV 0 hts gX4_interruptIfDue_X4_dropWritten rfl rfl rfl (by decide +kernel) ⟨Nat.le_of_ble_eq_true rfl, Nat.le_of_ble_eq_true rfl⟩) (gPreV (ci := 3) (C := RX4) (T := TX4) (N := 11) hP hK hD [0, 1, 2, 3, 4, 5, 6, 7, 8, 9, 10, 11, 12, 13, 14, 15, 16] (by decide) rfl 0 rfl rfl) rfl rfl hl.1 rfl (lv_room (Nat.le_of_ble_eq_true rfl)) dX4_interruptIfDue_64 ⟨Nat.le_of_ble_eq_true rfl, Nat.le_of_ble_eq_true rfl⟩) hP hD hS hA [0, 1, 2, 3, 4, 5, 6, 7, 8, 9, 10, 11, 12, 13, 14, 15, 16] [] [0, 1, 2, 3, 4, 5, 6, 7, 8, 9, 10, 11, 12, 13, 14, 15, 16] rfl rfl (by decide) (by decide) rfl (by decide) (fun H locs hP hD hS => ?_)
        refine lv_aload_n hx hb dX4_interruptIfDue_67 rfl (lv_at hl 0 rfl) ?_
        refine lv_iconst (v := (-1)) hx hb dX4_interruptIfDue_68 (by decide) ?_
        refine va_put (D := D) (ci := 3) (v := .int (-1)) (ty := .int) (C := RX4) (T := TX4) (N := 11) hx hb hts inX4_interruptIfDue_X4 tyX4 tyX4_ok nmX4 hown hK hP hD hS 0 rfl rfl 10 (by decide) (hts (.fieldLink RX4 36 "BlockCache" "exit" "I") (by decide +kernel)) (fun _ h9 => h9) rfl (by decide +kernel) rfl rfl (Nat.le_of_ble_eq_true rfl) dX4_interruptIfDue_69 (fun H locs hP hD hS => ?_)
        obtain ⟨u_12, eu_12, hf⟩ := pLet_out hf
        replace hP : va_P D vwCl (wB a0 a1 a2 a3 a4 a5 a6 a7 a8 a9 a10 a11 a12 a13 a14 a15 a16 cI u_12) H := by rw [eu_12]; exact hP
        replace hD : va_D A (wB a0 a1 a2 a3 a4 a5 a6 a7 a8 a9 a10 a11 a12 a13 a14 a15 a16 cI u_12) := by rw [eu_12]; exact hD
        have hz := Option.some.inj hf
        subst hz
        exact gRetV hx hb hr hlocks hK hP hD hS rfl dX4_interruptIfDue_72
      · replace hf := pI_f c_5 hf
        have hz := Option.some.inj hf
        subst hz
        exact gRetV hx hb hr hlocks hK hP hD hS rfl dX4_interruptIfDue_37
theorem ctX4_interruptIfDue (l : Launch) (D : va_G) (cI : ClassId) (a0 a1 a2 a3 a4 a5 a6 a7 a8 a9 a10 a11 a12 a13 a14 a15 a16 : Nat) (u : TB) (z : TB) (hz : fX4_interruptIfDue u = some z) : CtV l yX4_interruptIfDue wsX4_interruptIfDue rmX4_interruptIfDue D vwCl [(cI, .int)] [.ref a0] (wB a0 a1 a2 a3 a4 a5 a6 a7 a8 a9 a10 a11 a12 a13 a14 a15 a16 cI u) (wB a0 a1 a2 a3 a4 a5 a6 a7 a8 a9 a10 a11 a12 a13 a14 a15 a16 cI z) :=
  ctV_of (cc := cX4_interruptIfDue) (maxL := 1) (ret := none) (by decide) rfl (Nat.le_of_ble_eq_true rfl) (fun p e s m below meth c A ls C hl hP hD hS => wkX4_interruptIfDue C z _ s.heap [] ls hz hP hD hS hl)
abbrev rmX4_findBlock : Room := { frames := 4, cells := 0, slots := 0, locals := 96 }
theorem inX4_findBlock_X2 : ∀ w ∈ wsX20, w ∈ wsX4_findBlock := by decide +kernel
theorem inX4_findBlock_X4 : ∀ w ∈ wsX40, w ∈ wsX4_findBlock := by decide +kernel
set_option maxRecDepth 100000 in
set_option maxHeartbeats 4000000 in
theorem wkX4_findBlock {p : Program} {l : Launch} {e : Env} {s : State} {m : MethodId} {args : Array Value} {below : List Frame} {meth : Method} {c : Code} {D : va_G} {cI : ClassId} {A : Nat → Prop} {a0 a1 a2 a3 a4 a5 a6 a7 a8 a9 a10 a11 a12 a13 a14 a15 a16 : Nat} (C : cxt p s m args meth c cX4_findBlock (some .boolean) 2 RX4 wsX4_findBlock D vwCl [(cI, .int)] A) : ∀ (z : Int32 × TB) (u : TB) (x1 : Int32) (H : Heap) (locs : List Loc) (ls : Array Slot), fX4_findBlock u x1 = some z → va_P D vwCl (wB a0 a1 a2 a3 a4 a5 a6 a7 a8 a9 a10 a11 a12 a13 a14 a15 a16 cI u) H → va_D A (wB a0 a1 a2 a3 a4 a5 a6 a7 a8 a9 a10 a11 a12 a13 a14 a15 a16 cI u) → va_S A s.heap H locs → lv_has ls 2 [(0, .ref a0), (1, .int x1)] → W p l e rmX4_findBlock s m args below meth c H locs 0 0 (MQ below (oI D vwCl [(cI, .int)] A z.1 (wB a0 a1 a2 a3 a4 a5 a6 a7 a8 a9 a10 a11 a12 a13 a14 a15 a16 cI z.2)) args s 0 0 A) (F0 m 0 ls []) := by
  have C0 := C
  obtain ⟨hx, hb, hr, hml, hown, hts, hlocks, hK, hA⟩ := C
  intro z u x1 H locs ls hf hP hD hS hl
  unfold fX4_findBlock at hf
  refine lv_aload_n hx hb dX4_findBlock_0 rfl (lv_at hl 0 rfl) ?_
  refine va_get (D := D) (ci := 3) (v := .ref a7) (C := RX4) (T := TX4) (N := 11) hx hb hts inX4_findBlock_X4 hown hK hP 0 rfl rfl 1 (by decide) (hts (.fieldLink RX4 19 "BlockCache" "cache" "LBlockCache$Cache;") (by decide +kernel)) (fun _ h9 => h9) rfl dX4_findBlock_1 ?_
  refine lv_aload_n hx hb dX4_findBlock_4 rfl (lv_at hl 0 rfl) ?_
  refine va_get (D := D) (ci := 3) (v := .int (gB_exit u)) (C := RX4) (T := TX4) (N := 11) hx hb hts inX4_findBlock_X4 hown hK hP 0 rfl rfl 10 (by decide) (hts (.fieldLink RX4 36 "BlockCache" "exit" "I") (by decide +kernel)) (fun _ h9 => h9) rfl dX4_findBlock_5 ?_
  refine lv_iload_n hx hb dX4_findBlock_8 rfl (lv_at hl 1 rfl) ?_
  obtain ⟨z_1, hz_1, hf⟩ := pB_out hf
  refine gI (w' := (wB a0 a1 a2 a3 a4 a5 a6 a7 a8 a9 a10 a11 a12 a13 a14 a15 a16 cI u)) (va_runV (As := [.int (gB_exit u), .int x1]) (rest := []) ⟨hx, hb, hml, hown, hts⟩ (ctX0_isLinked l D cI a7 a8 a9 a10 a11 a12 a13 a14 (gB_cache u) (gB_exit u) x1 z_1 hz_1 H.size) (cwV 2 hts gX4_findBlock_X0_isLinked rfl rfl rfl (by decide +kernel) ⟨Nat.le_of_ble_eq_true rfl, Nat.le_of_ble_eq_true rfl⟩) (gPreV (ci := 0) (C := RX0) (T := TX0) (N := 13) hP hK hD [7, 8, 9, 10, 11, 12, 13, 14] (by decide) rfl 7 rfl rfl) rfl rfl hl.1 rfl (lv_room (Nat.le_of_ble_eq_true rfl)) dX4_findBlock_9 ⟨Nat.le_of_ble_eq_true rfl, Nat.le_of_ble_eq_true rfl⟩) hP hD hS hA [7, 8, 9, 10, 11, 12, 13, 14] [0, 1, 2, 3, 4, 5, 6, 15, 16] [0, 1, 2, 3, 4, 5, 6, 9, 10, 11, 12, 13, 14, 15, 16, 7, 8] rfl rfl (by decide) (by decide) rfl (by decide) (fun H locs hP hD hS => ?_)
  refine lv_if_eq (tgt := 17) hx hb dX4_findBlock_12 (by decide) (fun c_2 => ?_) (fun c_2 => ?_)
  · replace hf := pI_t c_2 hf
    refine lv_aload_n hx hb dX4_findBlock_17 rfl (lv_at hl 0 rfl) ?_
    refine lv_dup hx hb dX4_findBlock_18 rfl ?_
    refine va_get (D := D) (ci := 3) (v := .int (gB_lookups u)) (C := RX4) (T := TX4) (N := 11) hx hb hts inX4_findBlock_X4 hown hK hP 0 rfl rfl 6 (by decide) (hts (.fieldLink RX4 112 "BlockCache" "lookups" "I") (by decide +kernel)) (fun _ h9 => h9) rfl dX4_findBlock_19 ?_
    refine lv_iconst (v := 1) hx hb dX4_findBlock_22 (by decide) ?_
    refine lv_iadd hx hb dX4_findBlock_23 ?_
    refine va_put (D := D) (ci := 3) (v := .int ((gB_lookups u) + 1)) (ty := .int) (C := RX4) (T := TX4) (N := 11) hx hb hts inX4_findBlock_X4 tyX4 tyX4_ok nmX4 hown hK hP hD hS 0 rfl rfl 6 (by decide) (hts (.fieldLink RX4 112 "BlockCache" "lookups" "I") (by decide +kernel)) (fun _ h9 => h9) rfl (by decide +kernel) rfl rfl (Nat.le_of_ble_eq_true rfl) dX4_findBlock_24 (fun H locs hP hD hS => ?_)
    obtain ⟨u_3, eu_3, hf⟩ := pLet_out hf
    replace hP : va_P D vwCl (wB a0 a1 a2 a3 a4 a5 a6 a7 a8 a9 a10 a11 a12 a13 a14 a15 a16 cI u_3) H := by rw [eu_3]; exact hP
    replace hD : va_D A (wB a0 a1 a2 a3 a4 a5 a6 a7 a8 a9 a10 a11 a12 a13 a14 a15 a16 cI u_3) := by rw [eu_3]; exact hD
    refine lv_aload_n hx hb dX4_findBlock_27 rfl (lv_at hl 0 rfl) ?_
    refine va_get (D := D) (ci := 3) (v := .ref a7) (C := RX4) (T := TX4) (N := 11) hx hb hts inX4_findBlock_X4 hown hK hP 0 rfl rfl 1 (by decide) (hts (.fieldLink RX4 19 "BlockCache" "cache" "LBlockCache$Cache;") (by decide +kernel)) (fun _ h9 => h9) rfl dX4_findBlock_28 ?_
    refine lv_iload_n hx hb dX4_findBlock_31 rfl (lv_at hl 1 rfl) ?_
    obtain ⟨z_4, hz_4, hf⟩ := pB_out hf
    refine gI (w' := (wB a0 a1 a2 a3 a4 a5 a6 a7 a8 a9 a10 a11 a12 a13 a14 a15 a16 cI u_3)) (va_runV (As := [.int x1]) (rest := []) ⟨hx, hb, hml, hown, hts⟩ (ctX0_has l D cI a7 a8 a9 a10 a11 a12 a13 a14 (gB_cache u_3) x1 z_4 hz_4 H.size) (cwV 1 hts gX4_findBlock_X0_has rfl rfl rfl (by decide +kernel) ⟨Nat.le_of_ble_eq_true rfl, Nat.le_of_ble_eq_true rfl⟩) (gPreV (ci := 0) (C := RX0) (T := TX0) (N := 13) hP hK hD [7, 8, 9, 10, 11, 12, 13, 14] (by decide) rfl 7 rfl rfl) rfl rfl hl.1 rfl (lv_room (Nat.le_of_ble_eq_true rfl)) dX4_findBlock_32 ⟨Nat.le_of_ble_eq_true rfl, Nat.le_of_ble_eq_true rfl⟩) hP hD hS hA [7, 8, 9, 10, 11, 12, 13, 14] [0, 1, 2, 3, 4, 5, 6, 15, 16] [0, 1, 2, 3, 4, 5, 6, 9, 10, 11, 12, 13, 14, 15, 16, 7, 8] rfl rfl (by decide) (by decide) rfl (by decide) (fun H locs hP hD hS => ?_)
    refine lv_if_ne (tgt := 56) hx hb dX4_findBlock_35 (by decide) (fun c_5 => ?_) (fun c_5 => ?_)
    · replace hf := pI_f c_5 hf
      refine lv_iconst (v := 1) hx hb dX4_findBlock_56 (by decide) ?_
      refine lv_goto (tgt := 61) hx hb dX4_findBlock_57 (by decide) ?_
      have hz := Option.some.inj hf
      subst hz
      exact gRetZ hx hb hr hlocks hK hP hD hS (by decide) rfl rfl dX4_findBlock_61
    · replace hf := pI_t c_5 hf
      refine lv_aload_n hx hb dX4_findBlock_38 rfl (lv_at hl 0 rfl) ?_
      refine va_get (D := D) (ci := 3) (v := .ref a7) (C := RX4) (T := TX4) (N := 11) hx hb hts inX4_findBlock_X4 hown hK hP 0 rfl rfl 1 (by decide) (hts (.fieldLink RX4 19 "BlockCache" "cache" "LBlockCache$Cache;") (by decide +kernel)) (fun _ h9 => h9) rfl dX4_findBlock_39 ?_
      refine lv_aload_n hx hb dX4_findBlock_42 rfl (lv_at hl 0 rfl) ?_
      refine va_get (D := D) (ci := 3) (v := .ref a1) (C := RX4) (T := TX4) (N := 11) hx hb hts inX4_findBlock_X4 hown hK hP 0 rfl rfl 0 (by decide) (hts (.fieldLink RX4 10 "BlockCache" "guest" "LBlockCache$Guest;") (by decide +kernel)) (fun _ h9 => h9) rfl dX4_findBlock_43 ?_
      refine va_get (D := D) (ci := 1) (v := .ref a3) (C := RX2) (T := TX2) (N := 6) hx hb hts inX4_findBlock_X2 hown hK hP 1 rfl rfl 1 (by decide) (hts (.fieldLink RX4 46 "BlockCache$Guest" "memory" "[I") (by decide +kernel)) (fun _ h9 => h9) rfl dX4_findBlock_46 ?_
      refine lv_iload_n hx hb dX4_findBlock_49 rfl (lv_at hl 1 rfl) ?_
      obtain ⟨z_6, hz_6, hf⟩ := pB_out hf
      obtain ⟨u_7, eu_7, hf⟩ := pLet_out hf
      refine gI (w' := (wB a0 a1 a2 a3 a4 a5 a6 a7 a8 a9 a10 a11 a12 a13 a14 a15 a16 cI u_7)) (va_runV (As := [.ref a3, .int x1]) (rest := []) ⟨hx, hb, hml, hown, hts⟩ (ctX0_translate l D cI a7 a8 a9 a10 a11 a12 a13 a14 a3 (gB_cache u_3) (gG_memory (gB_guest u_3)) x1 z_6 hz_6 H.size) (cwV 2 hts gX4_findBlock_X0_translate rfl rfl rfl (by decide +kernel) ⟨Nat.le_of_ble_eq_true rfl, Nat.le_of_ble_eq_true rfl⟩) (gPreV (ci := 0) (C := RX0) (T := TX0) (N := 13) hP hK hD [7, 8, 9, 10, 11, 12, 13, 14, 3] (by decide) rfl 7 rfl rfl) rfl rfl hl.1 rfl (lv_room (Nat.le_of_ble_eq_true rfl)) dX4_findBlock_50 ⟨Nat.le_of_ble_eq_true rfl, Nat.le_of_ble_eq_true rfl⟩) hP hD hS hA [7, 8, 9, 10, 11, 12, 13, 14, 3] [0, 1, 2, 4, 5, 6, 15, 16] [0, 1, 2, 16, 3, 4, 5, 8, 9, 10, 11, 12, 13, 14, 15, 6, 7] rfl rfl (by decide) (by decide) (by rw [eu_7]; rfl) (by decide) (fun H locs hP hD hS => ?_)
      refine lv_if_eq (tgt := 60) hx hb dX4_findBlock_53 (by decide) (fun c_8 => ?_) (fun c_8 => ?_)
      · replace hf := pI_t c_8 hf
        refine lv_iconst (v := 0) hx hb dX4_findBlock_60 (by decide) ?_
        have hz := Option.some.inj hf
        subst hz
        exact gRetZ hx hb hr hlocks hK hP hD hS (by decide) rfl rfl dX4_findBlock_61
      · replace hf := pI_f c_8 hf
        refine lv_iconst (v := 1) hx hb dX4_findBlock_56 (by decide) ?_
        refine lv_goto (tgt := 61) hx hb dX4_findBlock_57 (by decide) ?_
        have hz := Option.some.inj hf
        subst hz
        exact gRetZ hx hb hr hlocks hK hP hD hS (by decide) rfl rfl dX4_findBlock_61
  · replace hf := pI_f c_2 hf
    refine lv_iconst (v := 1) hx hb dX4_findBlock_15 (by decide) ?_
    have hz := Option.some.inj hf
    subst hz
    exact gRetZ hx hb hr hlocks hK hP hD hS (by decide) rfl rfl dX4_findBlock_16
theorem ctX4_findBlock (l : Launch) (D : va_G) (cI : ClassId) (a0 a1 a2 a3 a4 a5 a6 a7 a8 a9 a10 a11 a12 a13 a14 a15 a16 : Nat) (u : TB) (x1 : Int32) (z : Int32 × TB) (hz : fX4_findBlock u x1 = some z) : CtI l yX4_findBlock wsX4_findBlock rmX4_findBlock D vwCl [(cI, .int)] [.ref a0, .int x1] (wB a0 a1 a2 a3 a4 a5 a6 a7 a8 a9 a10 a11 a12 a13 a14 a15 a16 cI u) z.1 (wB a0 a1 a2 a3 a4 a5 a6 a7 a8 a9 a10 a11 a12 a13 a14 a15 a16 cI z.2) :=
  ctI_of (cc := cX4_findBlock) (maxL := 2) (ret := (some .boolean)) (by decide) rfl (Nat.le_of_ble_eq_true rfl) (fun p e s m below meth c A ls C hl hP hD hS => wkX4_findBlock C z _ _ s.heap [] ls hz hP hD hS hl)

abbrev rmX0_has : Room := { frames := 0, cells := 0, slots := 0, locals := 0 }
theorem inX0_has_X0 : ∀ w ∈ wsX00, w ∈ wsX0_has := by decide +kernel
set_option maxRecDepth 100000 in
set_option maxHeartbeats 4000000 in
theorem wkX0_has {p : Program} {l : Launch} {e : Env} {s : State} {m : MethodId} {args : Array Value} {below : List Frame} {meth : Method} {c : Code} {D : va_G} {cI : ClassId} {A : Nat → Prop} {a0 a1 a2 a3 a4 a5 a6 a7 : Nat} (C : cxt p s m args meth c cX0_has (some .boolean) 2 RX0 wsX0_has D vwCl [(cI, .int)] A) : ∀ (z : Int32) (u : TC) (x1 : Int32) (H : Heap) (locs : List Loc) (ls : Array Slot), fX0_has u x1 = some z → va_P D vwCl (wC a0 a1 a2 a3 a4 a5 a6 a7 cI u) H → va_D A (wC a0 a1 a2 a3 a4 a5 a6 a7 cI u) → va_S A s.heap H locs → lv_has ls 2 [(0, .ref a0), (1, .int x1)] → W p l e rmX0_has s m args below meth c H locs 0 0 (MQ below (oI D vwCl [(cI, .int)] A z (wC a0 a1 a2 a3 a4 a5 a6 a7 cI u)) args s 0 0 A) (F0 m 0 ls []) := by
  have C0 := C
  obtain ⟨hx, hb, hr, hml, hown, hts, hlocks, hK, hA⟩ := C
  intro z u x1 H locs ls hf hP hD hS hl
  unfold fX0_has at hf
  refine lv_aload_n hx hb dX0_has_0 rfl (lv_at hl 0 rfl) ?_
  refine va_get (D := D) (ci := 0) (v := .ref a5) (C := RX0) (T := TX0) (N := 13) hx hb hts inX0_has_X0 hown hK hP 0 rfl rfl 4 (by decide) (hts (.fieldLink RX0 24 "BlockCache$Cache" "serial" "[I") (by decide +kernel)) (fun _ h9 => h9) rfl dX0_has_1 ?_
  refine lv_iload_n hx hb dX0_has_4 rfl (lv_at hl 1 rfl) ?_
  obtain ⟨h_1, hf⟩ := pIn_out hf
  refine va_iald hx hb hK hP 5 0 rfl rfl h_1 dX0_has_5 ?_
  refine lv_if_eq (tgt := 13) hx hb dX0_has_6 (by decide) (fun c_2 => ?_) (fun c_2 => ?_)
  · replace hf := pI_t c_2 hf
    refine lv_iconst (v := 0) hx hb dX0_has_13 (by decide) ?_
    have hz := Option.some.inj hf
    subst hz
    exact gRetZ hx hb hr hlocks hK hP hD hS (by decide) rfl rfl dX0_has_14
  · replace hf := pI_f c_2 hf
    refine lv_iconst (v := 1) hx hb dX0_has_9 (by decide) ?_
    refine lv_goto (tgt := 14) hx hb dX0_has_10 (by decide) ?_
    have hz := Option.some.inj hf
    subst hz
    exact gRetZ hx hb hr hlocks hK hP hD hS (by decide) rfl rfl dX0_has_14
theorem ctX0_has (l : Launch) (D : va_G) (cI : ClassId) (a0 a1 a2 a3 a4 a5 a6 a7 : Nat) (u : TC) (x1 : Int32) (z : Int32) (hz : fX0_has u x1 = some z) : CtI l yX0_has wsX0_has rmX0_has D vwCl [(cI, .int)] [.ref a0, .int x1] (wC a0 a1 a2 a3 a4 a5 a6 a7 cI u) z (wC a0 a1 a2 a3 a4 a5 a6 a7 cI u) :=
  ctI_of (cc := cX0_has) (maxL := 2) (ret := (some .boolean)) (by decide) rfl (Nat.le_of_ble_eq_true rfl) (fun p e s m below meth c A ls C hl hP hD hS => wkX0_has C z _ _ s.heap [] ls hz hP hD hS hl)
abbrev rmX0_reaches : Room := { frames := 0, cells := 0, slots := 0, locals := 0 }
theorem inX0_reaches_X0 : ∀ w ∈ wsX00, w ∈ wsX0_reaches := by decide +kernel
set_option maxRecDepth 100000 in
set_option maxHeartbeats 4000000 in
theorem wkX0_reaches {p : Program} {l : Launch} {e : Env} {s : State} {m : MethodId} {args : Array Value} {below : List Frame} {meth : Method} {c : Code} {D : va_G} {cI : ClassId} {A : Nat → Prop} {a0 a1 a2 a3 a4 a5 a6 a7 : Nat} (C : cxt p s m args meth c cX0_reaches (some .boolean) 4 RX0 wsX0_reaches D vwCl [(cI, .int)] A) : ∀ (z : Int32) (u : TC) (x1 : Int32) (x2 : Int32) (H : Heap) (locs : List Loc) (ls : Array Slot), fX0_reaches u x1 x2 = some z → va_P D vwCl (wC a0 a1 a2 a3 a4 a5 a6 a7 cI u) H → va_D A (wC a0 a1 a2 a3 a4 a5 a6 a7 cI u) → va_S A s.heap H locs → lv_has ls 4 [(0, .ref a0), (1, .int x1), (2, .int x2)] → W p l e rmX0_reaches s m args below meth c H locs 0 0 (MQ below (oI D vwCl [(cI, .int)] A z (wC a0 a1 a2 a3 a4 a5 a6 a7 cI u)) args s 0 0 A) (F0 m 0 ls []) := by
  have C0 := C
  obtain ⟨hx, hb, hr, hml, hown, hts, hlocks, hK, hA⟩ := C
  intro z u x1 x2 H locs ls hf hP hD hS hl
  unfold fX0_reaches at hf
  refine lv_aload_n hx hb dX0_reaches_0 rfl (lv_at hl 0 rfl) ?_
  refine va_get (D := D) (ci := 0) (v := .ref a3) (C := RX0) (T := TX0) (N := 13) hx hb hts inX0_reaches_X0 hown hK hP 0 rfl rfl 2 (by decide) (hts (.fieldLink RX0 18 "BlockCache$Cache" "behind" "[I") (by decide +kernel)) (fun _ h9 => h9) rfl dX0_reaches_1 ?_
  refine lv_iload_n hx hb dX0_reaches_4 rfl (lv_at hl 1 rfl) ?_
  obtain ⟨h_1, hf⟩ := pIn_out hf
  refine va_iald hx hb hK hP 3 0 rfl rfl h_1 dX0_reaches_5 ?_
  refine lv_iconst (v := 1) hx hb dX0_reaches_6 (by decide) ?_
  refine lv_isub hx hb dX0_reaches_7 ?_
  refine lv_sipush (v := 255) hx hb dX0_reaches_8 (by decide) ?_
  refine lv_iand hx hb dX0_reaches_11 ?_
  obtain ⟨x_2, ex_2, hf⟩ := pLet_out hf
  refine gTop ex_2 ?_
  refine lv_istore_n (lv' := [(3, .int x_2), (0, .ref a0), (1, .int x1), (2, .int x2)]) hx hb dX0_reaches_12 rfl hl (by decide) rfl (fun ls hl => ?_)
  refine lv_iload_n hx hb dX0_reaches_13 rfl (lv_at hl 2 rfl) ?_
  refine lv_bipush (v := 32) hx hb dX0_reaches_14 (by decide) ?_
  refine lv_idiv hx hb dX0_reaches_16 (by decide) ?_
  refine lv_iload_n hx hb dX0_reaches_17 rfl (lv_at hl 3 rfl) ?_
  refine lv_icmp_eq (tgt := 29) hx hb dX0_reaches_18 (by decide) (fun c_3 => ?_) (fun c_3 => ?_)
  · replace hf := pI_t c_3 hf
    refine lv_iconst (v := 1) hx hb dX0_reaches_29 (by decide) ?_
    refine lv_goto (tgt := 34) hx hb dX0_reaches_30 (by decide) ?_
    have hz := Option.some.inj hf
    subst hz
    exact gRetZ hx hb hr hlocks hK hP hD hS (by decide) rfl rfl dX0_reaches_34
  · replace hf := pI_f c_3 hf
    refine lv_iload_n hx hb dX0_reaches_21 rfl (lv_at hl 0 rfl) ?_
    refine lv_bipush (v := 32) hx hb dX0_reaches_22 (by decide) ?_
    refine lv_idiv hx hb dX0_reaches_24 (by decide) ?_
    refine lv_iload_n hx hb dX0_reaches_25 rfl (lv_at hl 3 rfl) ?_
    refine lv_icmp_ne (tgt := 33) hx hb dX0_reaches_26 (by decide) (fun c_4 => ?_) (fun c_4 => ?_)
    · replace hf := pI_f c_4 hf
      refine lv_iconst (v := 0) hx hb dX0_reaches_33 (by decide) ?_
      have hz := Option.some.inj hf
      subst hz
      exact gRetZ hx hb hr hlocks hK hP hD hS (by decide) rfl rfl dX0_reaches_34
    · replace hf := pI_t c_4 hf
      refine lv_iconst (v := 1) hx hb dX0_reaches_29 (by decide) ?_
      refine lv_goto (tgt := 34) hx hb dX0_reaches_30 (by decide) ?_
      have hz := Option.some.inj hf
      subst hz
      exact gRetZ hx hb hr hlocks hK hP hD hS (by decide) rfl rfl dX0_reaches_34
theorem ctX0_reaches (l : Launch) (D : va_G) (cI : ClassId) (a0 a1 a2 a3 a4 a5 a6 a7 : Nat) (u : TC) (x1 : Int32) (x2 : Int32) (z : Int32) (hz : fX0_reaches u x1 x2 = some z) : CtI l yX0_reaches wsX0_reaches rmX0_reaches D vwCl [(cI, .int)] [.ref a0, .int x1, .int x2] (wC a0 a1 a2 a3 a4 a5 a6 a7 cI u) z (wC a0 a1 a2 a3 a4 a5 a6 a7 cI u) :=
  ctI_of (cc := cX0_reaches) (maxL := 4) (ret := (some .boolean)) (by decide) rfl (Nat.le_of_ble_eq_true rfl) (fun p e s m below meth c A ls C hl hP hD hS => wkX0_reaches C z _ _ _ s.heap [] ls hz hP hD hS hl)
abbrev rmX0_dropPage : Room := { frames := 1, cells := 0, slots := 0, locals := 23 }
theorem inX0_dropPage_X0 : ∀ w ∈ wsX00, w ∈ wsX0_dropPage := by decide +kernel
set_option maxRecDepth 100000 in
set_option maxHeartbeats 4000000 in
theorem wkX0_dropPage_b86 {p : Program} {l : Launch} {e : Env} {s : State} {m : MethodId} {args : Array Value} {below : List Frame} {meth : Method} {c : Code} {D : va_G} {cI : ClassId} {A : Nat → Prop} {a0 a1 a2 a3 a4 a5 a6 a7 : Nat} (C : cxt p s m args meth c cX0_dropPage (some .int) 6 RX0 wsX0_dropPage D vwCl [(cI, .int)] A) {K16 : TC → Int32 → Int32 → Int32 → Int32 → Option (Int32 × TC)} (hK16 : ∀ (z : Int32 × TC) (u : TC) (x1 : Int32) (x2 : Int32) (x3 : Int32) (x4 : Int32) (H : Heap) (locs : List Loc) (ls : Array Slot), K16 u x1 x2 x3 x4 = some z → va_P D vwCl (wC a0 a1 a2 a3 a4 a5 a6 a7 cI u) H → va_D A (wC a0 a1 a2 a3 a4 a5 a6 a7 cI u) → va_S A s.heap H locs → lv_has ls 6 [(0, .ref a0), (1, .int x1), (2, .int x2), (3, .int x3), (4, .int x4)] → W p l e rmX0_dropPage s m args below meth c H locs 0 0 (MQ below (oI D vwCl [(cI, .int)] A z.1 (wC a0 a1 a2 a3 a4 a5 a6 a7 cI z.2)) args s 0 0 A) (F0 m 16 ls [])) : ∀ (z : Int32 × TC) (u : TC) (x1 : Int32) (x2 : Int32) (x3 : Int32) (x4 : Int32) (H : Heap) (locs : List Loc) (ls : Array Slot), fX0_dropPage_b86 K16 u x1 x2 x3 x4 = some z → va_P D vwCl (wC a0 a1 a2 a3 a4 a5 a6 a7 cI u) H → va_D A (wC a0 a1 a2 a3 a4 a5 a6 a7 cI u) → va_S A s.heap H locs → lv_has ls 6 [(0, .ref a0), (1, .int x1), (2, .int x2), (3, .int x3), (4, .int x4)] → W p l e rmX0_dropPage s m args below meth c H locs 0 0 (MQ below (oI D vwCl [(cI, .int)] A z.1 (wC a0 a1 a2 a3 a4 a5 a6 a7 cI z.2)) args s 0 0 A) (F0 m 86 ls []) := by
  have C0 := C
  obtain ⟨hx, hb, hr, hml, hown, hts, hlocks, hK, hA⟩ := C
  intro z u x1 x2 x3 x4 H locs ls hf hP hD hS hl
  unfold fX0_dropPage_b86 at hf
  obtain ⟨x_1, ex_1, hf⟩ := pLet_out hf
  refine lv_iinc (v := x_1) (lv' := [(4, .int x_1), (0, .ref a0), (1, .int x1), (2, .int x2), (3, .int x3)]) hx hb dX0_dropPage_86 hl (k := 4) rfl (by rw [ex_1]; rfl) (by decide) rfl (fun ls hl => ?_)
  refine lv_goto (tgt := 16) hx hb dX0_dropPage_89 (by decide) ?_
  exact hK16 _ _ _ _ _ _ H locs ls hf hP hD hS (lv_sub hl [1, 2, 3, 4, 0] rfl)
set_option maxRecDepth 100000 in
set_option maxHeartbeats 4000000 in
theorem wkX0_dropPage_b16 {p : Program} {l : Launch} {e : Env} {s : State} {m : MethodId} {args : Array Value} {below : List Frame} {meth : Method} {c : Code} {D : va_G} {cI : ClassId} {A : Nat → Prop} {a0 a1 a2 a3 a4 a5 a6 a7 : Nat} (C : cxt p s m args meth c cX0_dropPage (some .int) 6 RX0 wsX0_dropPage D vwCl [(cI, .int)] A) : ∀ (fu : Nat) (z : Int32 × TC) (u : TC) (x1 : Int32) (x2 : Int32) (x3 : Int32) (x4 : Int32) (H : Heap) (locs : List Loc) (ls : Array Slot), fX0_dropPage_b16 fu u x1 x2 x3 x4 = some z → va_P D vwCl (wC a0 a1 a2 a3 a4 a5 a6 a7 cI u) H → va_D A (wC a0 a1 a2 a3 a4 a5 a6 a7 cI u) → va_S A s.heap H locs → lv_has ls 6 [(0, .ref a0), (1, .int x1), (2, .int x2), (3, .int x3), (4, .int x4)] → W p l e rmX0_dropPage s m args below meth c H locs 0 0 (MQ below (oI D vwCl [(cI, .int)] A z.1 (wC a0 a1 a2 a3 a4 a5 a6 a7 cI z.2)) args s 0 0 A) (F0 m 16 ls []) := by
  have C0 := C
  obtain ⟨hx, hb, hr, hml, hown, hts, hlocks, hK, hA⟩ := C
  intro fu
  induction fu with
  | zero =>
    intro z u x1 x2 x3 x4 H locs ls hf hP hD hS hl
    cases hf
  | succ nn ih =>
    intro z u x1 x2 x3 x4 H locs ls hf hP hD hS hl
    simp only [fX0_dropPage_b16] at hf
    refine lv_iload hx hb dX0_dropPage_16 (lv_at hl 4 rfl) ?_
    refine lv_bipush (v := 47) hx hb dX0_dropPage_18 (by decide) ?_
    refine lv_icmp_ge (tgt := 92) hx hb dX0_dropPage_20 (by decide) (fun c_1 => ?_) (fun c_1 => ?_)
    · replace hf := pI_t c_1 hf
      refine lv_iload_n hx hb dX0_dropPage_92 rfl (lv_at hl 2 rfl) ?_
      refine lv_aload_n hx hb dX0_dropPage_93 rfl (lv_at hl 0 rfl) ?_
      refine va_get (D := D) (ci := 0) (v := .int (gC_blocks u)) (C := RX0) (T := TX0) (N := 13) hx hb hts inX0_dropPage_X0 hown hK hP 0 rfl rfl 8 (by decide) (hts (.fieldLink RX0 63 "BlockCache$Cache" "blocks" "I") (by decide +kernel)) (fun _ h9 => h9) rfl dX0_dropPage_94 ?_
      refine lv_isub hx hb dX0_dropPage_97 ?_
      have hz := Option.some.inj hf
      subst hz
      exact gRetI hx hb hr hlocks hK hP hD hS rfl rfl dX0_dropPage_98
    · replace hf := pI_f c_1 hf
      refine lv_iload_n hx hb dX0_dropPage_23 rfl (lv_at hl 3 rfl) ?_
      refine lv_iload hx hb dX0_dropPage_24 (lv_at hl 4 rfl) ?_
      refine lv_iadd hx hb dX0_dropPage_26 ?_
      refine lv_sipush (v := 255) hx hb dX0_dropPage_27 (by decide) ?_
      refine lv_iand hx hb dX0_dropPage_30 ?_
      obtain ⟨x_2, ex_2, hf⟩ := pLet_out hf
      refine gTop ex_2 ?_
      refine lv_istore (lv' := [(5, .int x_2), (0, .ref a0), (1, .int x1), (2, .int x2), (3, .int x3), (4, .int x4)]) hx hb dX0_dropPage_31 hl (by decide) rfl (fun ls hl => ?_)
      refine lv_aload_n hx hb dX0_dropPage_33 rfl (lv_at hl 1 rfl) ?_
      refine lv_iload hx hb dX0_dropPage_34 (lv_at hl 0 rfl) ?_
      obtain ⟨z_3, hz_3, hf⟩ := pB_out hf
      refine gI (w' := (wC a0 a1 a2 a3 a4 a5 a6 a7 cI u)) (va_runV (As := [.int x_2]) (rest := []) ⟨hx, hb, hml, hown, hts⟩ (ctX0_has l D cI a0 a1 a2 a3 a4 a5 a6 a7 u x_2 z_3 hz_3 H.size) (cwV 1 hts gX0_dropPage_X0_has rfl rfl rfl (by decide +kernel) ⟨Nat.le_of_ble_eq_true rfl, Nat.le_of_ble_eq_true rfl⟩) (gPreV (ci := 0) (C := RX0) (T := TX0) (N := 13) hP hK hD [0, 1, 2, 3, 4, 5, 6, 7] (by decide) rfl 0 rfl rfl) rfl rfl hl.1 rfl (lv_room (Nat.le_of_ble_eq_true rfl)) dX0_dropPage_36 ⟨Nat.le_of_ble_eq_true rfl, Nat.le_of_ble_eq_true rfl⟩) hP hD hS hA [0, 1, 2, 3, 4, 5, 6, 7] [] [0, 1, 2, 3, 4, 5, 6, 7] rfl rfl (by decide) (by decide) rfl (by decide) (fun H locs hP hD hS => ?_)
      refine lv_if_eq (tgt := 86) hx hb dX0_dropPage_39 (by decide) (fun c_4 => ?_) (fun c_4 => ?_)
      · replace hf := pI_t c_4 hf
        exact wkX0_dropPage_b86 C0 ih _ _ _ _ _ _ H locs ls hf hP hD hS (lv_sub hl [1, 2, 3, 4, 5] rfl)
      · replace hf := pI_f c_4 hf
        refine lv_aload_n hx hb dX0_dropPage_42 rfl (lv_at hl 1 rfl) ?_
        refine lv_iload hx hb dX0_dropPage_43 (lv_at hl 0 rfl) ?_
        refine lv_iload_n hx hb dX0_dropPage_45 rfl (lv_at hl 2 rfl) ?_
        obtain ⟨z_5, hz_5, hf⟩ := pB_out hf
        refine gI (w' := (wC a0 a1 a2 a3 a4 a5 a6 a7 cI u)) (va_runV (As := [.int x_2, .int x1]) (rest := []) ⟨hx, hb, hml, hown, hts⟩ (ctX0_reaches l D cI a0 a1 a2 a3 a4 a5 a6 a7 u x_2 x1 z_5 hz_5 H.size) (cwV 2 hts gX0_dropPage_X0_reaches rfl rfl rfl (by decide +kernel) ⟨Nat.le_of_ble_eq_true rfl, Nat.le_of_ble_eq_true rfl⟩) (gPreV (ci := 0) (C := RX0) (T := TX0) (N := 13) hP hK hD [0, 1, 2, 3, 4, 5, 6, 7] (by decide) rfl 0 rfl rfl) rfl rfl hl.1 rfl (lv_room (Nat.le_of_ble_eq_true rfl)) dX0_dropPage_46 ⟨Nat.le_of_ble_eq_true rfl, Nat.le_of_ble_eq_true rfl⟩) hP hD hS hA [0, 1, 2, 3, 4, 5, 6, 7] [] [0, 1, 2, 3, 4, 5, 6, 7] rfl rfl (by decide) (by decide) rfl (by decide) (fun H locs hP hD hS => ?_)
        refine lv_if_eq (tgt := 86) hx hb dX0_dropPage_49 (by decide) (fun c_6 => ?_) (fun c_6 => ?_)
        · replace hf := pI_t c_6 hf
          exact wkX0_dropPage_b86 C0 ih _ _ _ _ _ _ H locs ls hf hP hD hS (lv_sub hl [1, 2, 3, 4, 5] rfl)
        · replace hf := pI_f c_6 hf
          refine lv_aload_n hx hb dX0_dropPage_52 rfl (lv_at hl 1 rfl) ?_
          refine va_get (D := D) (ci := 0) (v := .ref a5) (C := RX0) (T := TX0) (N := 13) hx hb hts inX0_dropPage_X0 hown hK hP 0 rfl rfl 4 (by decide) (hts (.fieldLink RX0 24 "BlockCache$Cache" "serial" "[I") (by decide +kernel)) (fun _ h9 => h9) rfl dX0_dropPage_53 ?_
          refine lv_iload hx hb dX0_dropPage_56 (lv_at hl 0 rfl) ?_
          refine lv_iconst (v := 0) hx hb dX0_dropPage_58 (by decide) ?_
          obtain ⟨h_7, hf⟩ := pIn_out hf
          refine va_iast hx hb hK hP hD hS 5 0 rfl rfl h_7 dX0_dropPage_59 (fun H locs hP hD hS => ?_)
          obtain ⟨u_8, eu_8, hf⟩ := pLet_out hf
          replace hP : va_P D vwCl (wC a0 a1 a2 a3 a4 a5 a6 a7 cI u_8) H := by rw [eu_8]; exact hP
          replace hD : va_D A (wC a0 a1 a2 a3 a4 a5 a6 a7 cI u_8) := by rw [eu_8]; exact hD
          refine lv_aload_n hx hb dX0_dropPage_60 rfl (lv_at hl 1 rfl) ?_
          refine lv_dup hx hb dX0_dropPage_61 rfl ?_
          refine va_get (D := D) (ci := 0) (v := .int (gC_blocks u_8)) (C := RX0) (T := TX0) (N := 13) hx hb hts inX0_dropPage_X0 hown hK hP 0 rfl rfl 8 (by decide) (hts (.fieldLink RX0 63 "BlockCache$Cache" "blocks" "I") (by decide +kernel)) (fun _ h9 => h9) rfl dX0_dropPage_62 ?_
          refine lv_iconst (v := 1) hx hb dX0_dropPage_65 (by decide) ?_
          refine lv_isub hx hb dX0_dropPage_66 ?_
          refine va_put (D := D) (ci := 0) (v := .int ((gC_blocks u_8) - 1)) (ty := .int) (C := RX0) (T := TX0) (N := 13) hx hb hts inX0_dropPage_X0 tyX0 tyX0_ok nmX0 hown hK hP hD hS 0 rfl rfl 8 (by decide) (hts (.fieldLink RX0 63 "BlockCache$Cache" "blocks" "I") (by decide +kernel)) (fun _ h9 => h9) rfl (by decide +kernel) rfl rfl (Nat.le_of_ble_eq_true rfl) dX0_dropPage_67 (fun H locs hP hD hS => ?_)
          obtain ⟨u_9, eu_9, hf⟩ := pLet_out hf
          replace hP : va_P D vwCl (wC a0 a1 a2 a3 a4 a5 a6 a7 cI u_9) H := by rw [eu_9]; exact hP
          replace hD : va_D A (wC a0 a1 a2 a3 a4 a5 a6 a7 cI u_9) := by rw [eu_9]; exact hD
          refine lv_aload_n hx hb dX0_dropPage_70 rfl (lv_at hl 1 rfl) ?_
          refine lv_dup hx hb dX0_dropPage_71 rfl ?_
          refine va_get (D := D) (ci := 0) (v := .int (gC_filled u_9)) (C := RX0) (T := TX0) (N := 13) hx hb hts inX0_dropPage_X0 hown hK hP 0 rfl rfl 9 (by decide) (hts (.fieldLink RX0 48 "BlockCache$Cache" "filled" "I") (by decide +kernel)) (fun _ h9 => h9) rfl dX0_dropPage_72 ?_
          refine lv_aload_n hx hb dX0_dropPage_75 rfl (lv_at hl 1 rfl) ?_
          refine va_get (D := D) (ci := 0) (v := .ref a4) (C := RX0) (T := TX0) (N := 13) hx hb hts inX0_dropPage_X0 hown hK hP 0 rfl rfl 3 (by decide) (hts (.fieldLink RX0 21 "BlockCache$Cache" "size" "[I") (by decide +kernel)) (fun _ h9 => h9) rfl dX0_dropPage_76 ?_
          refine lv_iload hx hb dX0_dropPage_79 (lv_at hl 0 rfl) ?_
          obtain ⟨h_10, hf⟩ := pIn_out hf
          refine va_iald hx hb hK hP 4 0 rfl rfl h_10 dX0_dropPage_81 ?_
          refine lv_isub hx hb dX0_dropPage_82 ?_
          refine va_put (D := D) (ci := 0) (v := .int ((gC_filled u_9) - ((gC_size u_9) x_2.toNatClampNeg))) (ty := .int) (C := RX0) (T := TX0) (N := 13) hx hb hts inX0_dropPage_X0 tyX0 tyX0_ok nmX0 hown hK hP hD hS 0 rfl rfl 9 (by decide) (hts (.fieldLink RX0 48 "BlockCache$Cache" "filled" "I") (by decide +kernel)) (fun _ h9 => h9) rfl (by decide +kernel) rfl rfl (Nat.le_of_ble_eq_true rfl) dX0_dropPage_83 (fun H locs hP hD hS => ?_)
          obtain ⟨u_11, eu_11, hf⟩ := pLet_out hf
          replace hP : va_P D vwCl (wC a0 a1 a2 a3 a4 a5 a6 a7 cI u_11) H := by rw [eu_11]; exact hP
          replace hD : va_D A (wC a0 a1 a2 a3 a4 a5 a6 a7 cI u_11) := by rw [eu_11]; exact hD
          exact wkX0_dropPage_b86 C0 ih _ _ _ _ _ _ H locs ls hf hP hD hS (lv_sub hl [1, 2, 3, 4, 5] rfl)
set_option maxRecDepth 100000 in
set_option maxHeartbeats 4000000 in
theorem wkX0_dropPage {p : Program} {l : Launch} {e : Env} {s : State} {m : MethodId} {args : Array Value} {below : List Frame} {meth : Method} {c : Code} {D : va_G} {cI : ClassId} {A : Nat → Prop} {a0 a1 a2 a3 a4 a5 a6 a7 : Nat} (C : cxt p s m args meth c cX0_dropPage (some .int) 6 RX0 wsX0_dropPage D vwCl [(cI, .int)] A) : ∀ (z : Int32 × TC) (u : TC) (x1 : Int32) (H : Heap) (locs : List Loc) (ls : Array Slot), fX0_dropPage u x1 = some z → va_P D vwCl (wC a0 a1 a2 a3 a4 a5 a6 a7 cI u) H → va_D A (wC a0 a1 a2 a3 a4 a5 a6 a7 cI u) → va_S A s.heap H locs → lv_has ls 6 [(0, .ref a0), (1, .int x1)] → W p l e rmX0_dropPage s m args below meth c H locs 0 0 (MQ below (oI D vwCl [(cI, .int)] A z.1 (wC a0 a1 a2 a3 a4 a5 a6 a7 cI z.2)) args s 0 0 A) (F0 m 0 ls []) := by
  have C0 := C
  obtain ⟨hx, hb, hr, hml, hown, hts, hlocks, hK, hA⟩ := C
  intro z u x1 H locs ls hf hP hD hS hl
  unfold fX0_dropPage at hf
  refine lv_aload_n hx hb dX0_dropPage_0 rfl (lv_at hl 0 rfl) ?_
  refine va_get (D := D) (ci := 0) (v := .int (gC_blocks u)) (C := RX0) (T := TX0) (N := 13) hx hb hts inX0_dropPage_X0 hown hK hP 0 rfl rfl 8 (by decide) (hts (.fieldLink RX0 63 "BlockCache$Cache" "blocks" "I") (by decide +kernel)) (fun _ h9 => h9) rfl dX0_dropPage_1 ?_
  obtain ⟨x_1, ex_1, hf⟩ := pLet_out hf
  refine gTop ex_1 ?_
  refine lv_istore_n (lv' := [(2, .int x_1), (0, .ref a0), (1, .int x1)]) hx hb dX0_dropPage_4 rfl hl (by decide) rfl (fun ls hl => ?_)
  refine lv_iload_n hx hb dX0_dropPage_5 rfl (lv_at hl 2 rfl) ?_
  refine lv_bipush (v := 32) hx hb dX0_dropPage_6 (by decide) ?_
  refine lv_imul hx hb dX0_dropPage_8 ?_
  refine lv_bipush (v := 15) hx hb dX0_dropPage_9 (by decide) ?_
  refine lv_isub hx hb dX0_dropPage_11 ?_
  obtain ⟨x_2, ex_2, hf⟩ := pLet_out hf
  refine gTop ex_2 ?_
  refine lv_istore_n (lv' := [(3, .int x_2), (2, .int x_1), (0, .ref a0), (1, .int x1)]) hx hb dX0_dropPage_12 rfl hl (by decide) rfl (fun ls hl => ?_)
  refine lv_iconst (v := 0) hx hb dX0_dropPage_13 (by decide) ?_
  refine lv_istore (lv' := [(4, .int 0), (3, .int x_2), (2, .int x_1), (0, .ref a0), (1, .int x1)]) hx hb dX0_dropPage_14 hl (by decide) rfl (fun ls hl => ?_)
  exact wkX0_dropPage_b16 C0 fuelX0_dropPage_16 _ _ _ _ _ _ H locs ls hf hP hD hS (lv_sub hl [3, 4, 2, 1, 0] rfl)
theorem ctX0_dropPage (l : Launch) (D : va_G) (cI : ClassId) (a0 a1 a2 a3 a4 a5 a6 a7 : Nat) (u : TC) (x1 : Int32) (z : Int32 × TC) (hz : fX0_dropPage u x1 = some z) : CtI l yX0_dropPage wsX0_dropPage rmX0_dropPage D vwCl [(cI, .int)] [.ref a0, .int x1] (wC a0 a1 a2 a3 a4 a5 a6 a7 cI u) z.1 (wC a0 a1 a2 a3 a4 a5 a6 a7 cI z.2) :=
  ctI_of (cc := cX0_dropPage) (maxL := 6) (ret := (some .int)) (by decide) rfl (Nat.le_of_ble_eq_true rfl) (fun p e s m below meth c A ls C hl hP hD hS => wkX0_dropPage C z _ _ s.heap [] ls hz hP hD hS hl)
abbrev rmJ7_fill_53178 : Room := { frames := 0, cells := 0, slots := 0, locals := 0 }
set_option maxRecDepth 100000 in
set_option maxHeartbeats 4000000 in
theorem wkJ7_fill_53178_b5 {p : Program} {l : Launch} {e : Env} {s : State} {m : MethodId} {args : Array Value} {below : List Frame} {meth : Method} {c : Code} {D : va_G} {cI : ClassId} {A : Nat → Prop} {b0 : Nat} {n : Nat} (C : cxt p s m args meth c cJ7_fill_53178 none 4 RJ7 wsJ7_fill_53178 D vwCl [(cI, .int)] A) : ∀ (fu : Nat) (z : (Nat → Int32)) (f0 : (Nat → Int32)) (x1 : Int32) (x2 : Int32) (x3 : Int32) (H : Heap) (locs : List Loc) (ls : Array Slot), fJ7_fill_53178_b5 n fu f0 x1 x2 x3 = some z → va_P D vwCl ([(b0, .inl (cI, n, .inl f0))] : va_W) H → va_D A ([(b0, .inl (cI, n, .inl f0))] : va_W) → va_S A s.heap H locs → lv_has ls 4 [(0, .ref b0), (1, .int x1), (2, .int x2), (3, .int x3)] → W p l e rmJ7_fill_53178 s m args below meth c H locs 0 0 (MQ below (oV D vwCl [(cI, .int)] A ([(b0, .inl (cI, n, .inl z))] : va_W)) args s 0 0 A) (F0 m 5 ls []) := by
  have C0 := C
  obtain ⟨hx, hb, hr, hml, hown, hts, hlocks, hK, hA⟩ := C
  intro fu
  induction fu with
  | zero =>
    intro z f0 x1 x2 x3 H locs ls hf hP hD hS hl
    cases hf
  | succ nn ih =>
    intro z f0 x1 x2 x3 H locs ls hf hP hD hS hl
    simp only [fJ7_fill_53178_b5] at hf
    refine lv_iload_n hx hb dJ7_fill_53178_5 rfl (lv_at hl 2 rfl) ?_
    refine lv_iload_n hx hb dJ7_fill_53178_6 rfl (lv_at hl 3 rfl) ?_
    refine lv_icmp_ge (tgt := 20) hx hb dJ7_fill_53178_7 (by decide) (fun c_1 => ?_) (fun c_1 => ?_)
    · replace hf := pI_t c_1 hf
      have hz := Option.some.inj hf
      subst hz
      exact gRetV hx hb hr hlocks hK hP hD hS rfl dJ7_fill_53178_20
    · replace hf := pI_f c_1 hf
      refine lv_aload_n hx hb dJ7_fill_53178_10 rfl (lv_at hl 0 rfl) ?_
      refine lv_iload_n hx hb dJ7_fill_53178_11 rfl (lv_at hl 2 rfl) ?_
      refine lv_iload_n hx hb dJ7_fill_53178_12 rfl (lv_at hl 1 rfl) ?_
      obtain ⟨h_2, hf⟩ := pIn_out hf
      refine va_iast hx hb hK hP hD hS 0 0 rfl rfl h_2 dJ7_fill_53178_13 (fun H locs hP hD hS => ?_)
      obtain ⟨u_3, eu_3, hf⟩ := pLet_out hf
      replace hP : va_P D vwCl ([(b0, .inl (cI, n, .inl u_3))] : va_W) H := by rw [eu_3]; exact hP
      replace hD : va_D A ([(b0, .inl (cI, n, .inl u_3))] : va_W) := by rw [eu_3]; exact hD
      obtain ⟨x_4, ex_4, hf⟩ := pLet_out hf
      refine lv_iinc (v := x_4) (lv' := [(2, .int x_4), (0, .ref b0), (1, .int x1), (3, .int x3)]) hx hb dJ7_fill_53178_14 hl (k := 2) rfl (by rw [ex_4]; rfl) (by decide) rfl (fun ls hl => ?_)
      refine lv_goto (tgt := 5) hx hb dJ7_fill_53178_17 (by decide) ?_
      exact ih _ _ _ _ _ H locs ls hf hP hD hS (lv_sub hl [1, 2, 0, 3] rfl)
set_option maxRecDepth 100000 in
set_option maxHeartbeats 4000000 in
theorem wkJ7_fill_53178 {p : Program} {l : Launch} {e : Env} {s : State} {m : MethodId} {args : Array Value} {below : List Frame} {meth : Method} {c : Code} {D : va_G} {cI : ClassId} {A : Nat → Prop} {b0 : Nat} {n : Nat} (C : cxt p s m args meth c cJ7_fill_53178 none 4 RJ7 wsJ7_fill_53178 D vwCl [(cI, .int)] A) : ∀ (z : (Nat → Int32)) (f0 : (Nat → Int32)) (x1 : Int32) (H : Heap) (locs : List Loc) (ls : Array Slot), fJ7_fill_53178 n f0 x1 = some z → va_P D vwCl ([(b0, .inl (cI, n, .inl f0))] : va_W) H → va_D A ([(b0, .inl (cI, n, .inl f0))] : va_W) → va_S A s.heap H locs → lv_has ls 4 [(0, .ref b0), (1, .int x1)] → W p l e rmJ7_fill_53178 s m args below meth c H locs 0 0 (MQ below (oV D vwCl [(cI, .int)] A ([(b0, .inl (cI, n, .inl z))] : va_W)) args s 0 0 A) (F0 m 0 ls []) := by
  have C0 := C
  obtain ⟨hx, hb, hr, hml, hown, hts, hlocks, hK, hA⟩ := C
  intro z f0 x1 H locs ls hf hP hD hS hl
  unfold fJ7_fill_53178 at hf
  refine lv_iconst (v := 0) hx hb dJ7_fill_53178_0 (by decide) ?_
  refine lv_istore_n (lv' := [(2, .int 0), (0, .ref b0), (1, .int x1)]) hx hb dJ7_fill_53178_1 rfl hl (by decide) rfl (fun ls hl => ?_)
  refine lv_aload_n hx hb dJ7_fill_53178_2 rfl (lv_at hl 1 rfl) ?_
  refine va_alen (v := (Int32.ofNat n)) hx hb hK hP 0 0 rfl rfl rfl dJ7_fill_53178_3 ?_
  obtain ⟨x_1, ex_1, hf⟩ := pLet_out hf
  refine gTop ex_1 ?_
  refine lv_istore_n (lv' := [(3, .int x_1), (2, .int 0), (0, .ref b0), (1, .int x1)]) hx hb dJ7_fill_53178_4 rfl hl (by decide) rfl (fun ls hl => ?_)
  exact wkJ7_fill_53178_b5 C0 fuelJ7_fill_53178_5 _ _ _ _ _ H locs ls hf hP hD hS (lv_sub hl [2, 3, 1, 0] rfl)
theorem ctJ7_fill_53178 (l : Launch) (D : va_G) (cI : ClassId) (b0 : Nat) (n : Nat) (f0 : (Nat → Int32)) (x1 : Int32) (z : (Nat → Int32)) (hz : fJ7_fill_53178 n f0 x1 = some z) : CtV l yJ7_fill_53178 wsJ7_fill_53178 rmJ7_fill_53178 D vwCl [(cI, .int)] [.ref b0, .int x1] ([(b0, .inl (cI, n, .inl f0))] : va_W) ([(b0, .inl (cI, n, .inl z))] : va_W) :=
  ctV_of (cc := cJ7_fill_53178) (maxL := 4) (ret := none) (by decide) rfl (Nat.le_of_ble_eq_true rfl) (fun p e s m below meth c A ls C hl hP hD hS => wkJ7_fill_53178 C z _ _ s.heap [] ls hz hP hD hS hl)
abbrev rmX0_empty : Room := { frames := 1, cells := 0, slots := 0, locals := 23 }
theorem inX0_empty_X0 : ∀ w ∈ wsX00, w ∈ wsX0_empty := by decide +kernel
set_option maxRecDepth 100000 in
set_option maxHeartbeats 4000000 in
theorem wkX0_empty {p : Program} {l : Launch} {e : Env} {s : State} {m : MethodId} {args : Array Value} {below : List Frame} {meth : Method} {c : Code} {D : va_G} {cI : ClassId} {A : Nat → Prop} {a0 a1 a2 a3 a4 a5 a6 a7 : Nat} (C : cxt p s m args meth c cX0_empty none 1 RX0 wsX0_empty D vwCl [(cI, .int)] A) : ∀ (z : TC) (u : TC) (H : Heap) (locs : List Loc) (ls : Array Slot), fX0_empty u = some z → va_P D vwCl (wC a0 a1 a2 a3 a4 a5 a6 a7 cI u) H → va_D A (wC a0 a1 a2 a3 a4 a5 a6 a7 cI u) → va_S A s.heap H locs → lv_has ls 1 [(0, .ref a0)] → W p l e rmX0_empty s m args below meth c H locs 0 0 (MQ below (oV D vwCl [(cI, .int)] A (wC a0 a1 a2 a3 a4 a5 a6 a7 cI z)) args s 0 0 A) (F0 m 0 ls []) := by
  have C0 := C
  obtain ⟨hx, hb, hr, hml, hown, hts, hlocks, hK, hA⟩ := C
  intro z u H locs ls hf hP hD hS hl
  unfold fX0_empty at hf
  refine lv_aload_n hx hb dX0_empty_0 rfl (lv_at hl 0 rfl) ?_
  refine va_get (D := D) (ci := 0) (v := .ref a5) (C := RX0) (T := TX0) (N := 13) hx hb hts inX0_empty_X0 hown hK hP 0 rfl rfl 4 (by decide) (hts (.fieldLink RX0 24 "BlockCache$Cache" "serial" "[I") (by decide +kernel)) (fun _ h9 => h9) rfl dX0_empty_1 ?_
  refine lv_iconst (v := 0) hx hb dX0_empty_4 (by decide) ?_
  obtain ⟨z_1, hz_1, hf⟩ := pB_out hf
  obtain ⟨u_2, eu_2, hf⟩ := pLet_out hf
  refine gV (w' := (wC a0 a1 a2 a3 a4 a5 a6 a7 cI u_2)) (va_runS (As := [.ref a5, .int 0]) (rest := []) ⟨hx, hb, hml, hown, hts⟩ (ctJ7_fill_53178 l D cI a5 256 (gC_serial u) 0 z_1 hz_1 H.size) (va_cwS 2 hts gX0_empty_J7_fill_53178 rfl rfl rfl (by decide +kernel) ⟨Nat.le_of_ble_eq_true rfl, Nat.le_of_ble_eq_true rfl⟩) (gPreS hP hK hD [5] (by decide) rfl) rfl rfl hl.1 rfl (lv_room (Nat.le_of_ble_eq_true rfl)) dX0_empty_5 ⟨Nat.le_of_ble_eq_true rfl, Nat.le_of_ble_eq_true rfl⟩) hP hD hS hA [5] [0, 1, 2, 3, 4, 6, 7] [0, 1, 2, 3, 4, 7, 5, 6] rfl rfl (by decide) (by decide) (by rw [eu_2]; rfl) (by decide) (fun H locs hP hD hS => ?_)
  refine lv_aload_n hx hb dX0_empty_8 rfl (lv_at hl 0 rfl) ?_
  refine lv_iconst (v := 0) hx hb dX0_empty_9 (by decide) ?_
  refine va_put (D := D) (ci := 0) (v := .int 0) (ty := .int) (C := RX0) (T := TX0) (N := 13) hx hb hts inX0_empty_X0 tyX0 tyX0_ok nmX0 hown hK hP hD hS 0 rfl rfl 8 (by decide) (hts (.fieldLink RX0 63 "BlockCache$Cache" "blocks" "I") (by decide +kernel)) (fun _ h9 => h9) rfl (by decide +kernel) rfl rfl (Nat.le_of_ble_eq_true rfl) dX0_empty_10 (fun H locs hP hD hS => ?_)
  obtain ⟨u_3, eu_3, hf⟩ := pLet_out hf
  replace hP : va_P D vwCl (wC a0 a1 a2 a3 a4 a5 a6 a7 cI u_3) H := by rw [eu_3]; exact hP
  replace hD : va_D A (wC a0 a1 a2 a3 a4 a5 a6 a7 cI u_3) := by rw [eu_3]; exact hD
  refine lv_aload_n hx hb dX0_empty_13 rfl (lv_at hl 0 rfl) ?_
  refine lv_iconst (v := 0) hx hb dX0_empty_14 (by decide) ?_
  refine va_put (D := D) (ci := 0) (v := .int 0) (ty := .int) (C := RX0) (T := TX0) (N := 13) hx hb hts inX0_empty_X0 tyX0 tyX0_ok nmX0 hown hK hP hD hS 0 rfl rfl 9 (by decide) (hts (.fieldLink RX0 48 "BlockCache$Cache" "filled" "I") (by decide +kernel)) (fun _ h9 => h9) rfl (by decide +kernel) rfl rfl (Nat.le_of_ble_eq_true rfl) dX0_empty_15 (fun H locs hP hD hS => ?_)
  obtain ⟨u_4, eu_4, hf⟩ := pLet_out hf
  replace hP : va_P D vwCl (wC a0 a1 a2 a3 a4 a5 a6 a7 cI u_4) H := by rw [eu_4]; exact hP
  replace hD : va_D A (wC a0 a1 a2 a3 a4 a5 a6 a7 cI u_4) := by rw [eu_4]; exact hD
  have hz := Option.some.inj hf
  subst hz
  exact gRetV hx hb hr hlocks hK hP hD hS rfl dX0_empty_18
theorem ctX0_empty (l : Launch) (D : va_G) (cI : ClassId) (a0 a1 a2 a3 a4 a5 a6 a7 : Nat) (u : TC) (z : TC) (hz : fX0_empty u = some z) : CtV l yX0_empty wsX0_empty rmX0_empty D vwCl [(cI, .int)] [.ref a0] (wC a0 a1 a2 a3 a4 a5 a6 a7 cI u) (wC a0 a1 a2 a3 a4 a5 a6 a7 cI z) :=
  ctV_of (cc := cX0_empty) (maxL := 1) (ret := none) (by decide) rfl (Nat.le_of_ble_eq_true rfl) (fun p e s m below meth c A ls C hl hP hD hS => wkX0_empty C z _ s.heap [] ls hz hP hD hS hl)
abbrev rmX0_isLinked : Room := { frames := 1, cells := 0, slots := 0, locals := 21 }
theorem inX0_isLinked_X0 : ∀ w ∈ wsX00, w ∈ wsX0_isLinked := by decide +kernel
set_option maxRecDepth 100000 in
set_option maxHeartbeats 4000000 in
theorem wkX0_isLinked {p : Program} {l : Launch} {e : Env} {s : State} {m : MethodId} {args : Array Value} {below : List Frame} {meth : Method} {c : Code} {D : va_G} {cI : ClassId} {A : Nat → Prop} {a0 a1 a2 a3 a4 a5 a6 a7 : Nat} (C : cxt p s m args meth c cX0_isLinked (some .boolean) 3 RX0 wsX0_isLinked D vwCl [(cI, .int)] A) : ∀ (z : Int32) (u : TC) (x1 : Int32) (x2 : Int32) (H : Heap) (locs : List Loc) (ls : Array Slot), fX0_isLinked u x1 x2 = some z → va_P D vwCl (wC a0 a1 a2 a3 a4 a5 a6 a7 cI u) H → va_D A (wC a0 a1 a2 a3 a4 a5 a6 a7 cI u) → va_S A s.heap H locs → lv_has ls 3 [(0, .ref a0), (1, .int x1), (2, .int x2)] → W p l e rmX0_isLinked s m args below meth c H locs 0 0 (MQ below (oI D vwCl [(cI, .int)] A z (wC a0 a1 a2 a3 a4 a5 a6 a7 cI u)) args s 0 0 A) (F0 m 0 ls []) := by
  have C0 := C
  obtain ⟨hx, hb, hr, hml, hown, hts, hlocks, hK, hA⟩ := C
  intro z u x1 x2 H locs ls hf hP hD hS hl
  unfold fX0_isLinked at hf
  refine lv_iload_n hx hb dX0_isLinked_0 rfl (lv_at hl 1 rfl) ?_
  refine lv_iconst (v := (-1)) hx hb dX0_isLinked_1 (by decide) ?_
  refine lv_icmp_eq (tgt := 32) hx hb dX0_isLinked_2 (by decide) (fun c_1 => ?_) (fun c_1 => ?_)
  · replace hf := pI_t c_1 hf
    refine lv_iconst (v := 0) hx hb dX0_isLinked_32 (by decide) ?_
    have hz := Option.some.inj hf
    subst hz
    exact gRetZ hx hb hr hlocks hK hP hD hS (by decide) rfl rfl dX0_isLinked_33
  · replace hf := pI_f c_1 hf
    refine lv_aload_n hx hb dX0_isLinked_5 rfl (lv_at hl 0 rfl) ?_
    refine lv_iload_n hx hb dX0_isLinked_6 rfl (lv_at hl 2 rfl) ?_
    obtain ⟨z_2, hz_2, hf⟩ := pB_out hf
    refine gI (w' := (wC a0 a1 a2 a3 a4 a5 a6 a7 cI u)) (va_runV (As := [.int x2]) (rest := []) ⟨hx, hb, hml, hown, hts⟩ (ctX0_has l D cI a0 a1 a2 a3 a4 a5 a6 a7 u x2 z_2 hz_2 H.size) (cwV 1 hts gX0_isLinked_X0_has rfl rfl rfl (by decide +kernel) ⟨Nat.le_of_ble_eq_true rfl, Nat.le_of_ble_eq_true rfl⟩) (gPreV (ci := 0) (C := RX0) (T := TX0) (N := 13) hP hK hD [0, 1, 2, 3, 4, 5, 6, 7] (by decide) rfl 0 rfl rfl) rfl rfl hl.1 rfl (lv_room (Nat.le_of_ble_eq_true rfl)) dX0_isLinked_7 ⟨Nat.le_of_ble_eq_true rfl, Nat.le_of_ble_eq_true rfl⟩) hP hD hS hA [0, 1, 2, 3, 4, 5, 6, 7] [] [0, 1, 2, 3, 4, 5, 6, 7] rfl rfl (by decide) (by decide) rfl (by decide) (fun H locs hP hD hS => ?_)
    refine lv_if_eq (tgt := 32) hx hb dX0_isLinked_10 (by decide) (fun c_3 => ?_) (fun c_3 => ?_)
    · replace hf := pI_t c_3 hf
      refine lv_iconst (v := 0) hx hb dX0_isLinked_32 (by decide) ?_
      have hz := Option.some.inj hf
      subst hz
      exact gRetZ hx hb hr hlocks hK hP hD hS (by decide) rfl rfl dX0_isLinked_33
    · replace hf := pI_f c_3 hf
      refine lv_aload_n hx hb dX0_isLinked_13 rfl (lv_at hl 0 rfl) ?_
      refine va_get (D := D) (ci := 0) (v := .ref a7) (C := RX0) (T := TX0) (N := 13) hx hb hts inX0_isLinked_X0 hown hK hP 0 rfl rfl 6 (by decide) (hts (.fieldLink RX0 30 "BlockCache$Cache" "linkedSerial" "[I") (by decide +kernel)) (fun _ h9 => h9) rfl dX0_isLinked_14 ?_
      refine lv_iload_n hx hb dX0_isLinked_17 rfl (lv_at hl 1 rfl) ?_
      obtain ⟨h_4, hf⟩ := pIn_out hf
      refine va_iald hx hb hK hP 7 0 rfl rfl h_4 dX0_isLinked_18 ?_
      refine lv_aload_n hx hb dX0_isLinked_19 rfl (lv_at hl 0 rfl) ?_
      refine va_get (D := D) (ci := 0) (v := .ref a5) (C := RX0) (T := TX0) (N := 13) hx hb hts inX0_isLinked_X0 hown hK hP 0 rfl rfl 4 (by decide) (hts (.fieldLink RX0 24 "BlockCache$Cache" "serial" "[I") (by decide +kernel)) (fun _ h9 => h9) rfl dX0_isLinked_20 ?_
      refine lv_iload_n hx hb dX0_isLinked_23 rfl (lv_at hl 2 rfl) ?_
      obtain ⟨h_5, hf⟩ := pIn_out hf
      refine va_iald hx hb hK hP 5 0 rfl rfl h_5 dX0_isLinked_24 ?_
      refine lv_icmp_ne (tgt := 32) hx hb dX0_isLinked_25 (by decide) (fun c_6 => ?_) (fun c_6 => ?_)
      · replace hf := pI_f c_6 hf
        refine lv_iconst (v := 0) hx hb dX0_isLinked_32 (by decide) ?_
        have hz := Option.some.inj hf
        subst hz
        exact gRetZ hx hb hr hlocks hK hP hD hS (by decide) rfl rfl dX0_isLinked_33
      · replace hf := pI_t c_6 hf
        refine lv_iconst (v := 1) hx hb dX0_isLinked_28 (by decide) ?_
        refine lv_goto (tgt := 33) hx hb dX0_isLinked_29 (by decide) ?_
        have hz := Option.some.inj hf
        subst hz
        exact gRetZ hx hb hr hlocks hK hP hD hS (by decide) rfl rfl dX0_isLinked_33
theorem ctX0_isLinked (l : Launch) (D : va_G) (cI : ClassId) (a0 a1 a2 a3 a4 a5 a6 a7 : Nat) (u : TC) (x1 : Int32) (x2 : Int32) (z : Int32) (hz : fX0_isLinked u x1 x2 = some z) : CtI l yX0_isLinked wsX0_isLinked rmX0_isLinked D vwCl [(cI, .int)] [.ref a0, .int x1, .int x2] (wC a0 a1 a2 a3 a4 a5 a6 a7 cI u) z (wC a0 a1 a2 a3 a4 a5 a6 a7 cI u) :=
  ctI_of (cc := cX0_isLinked) (maxL := 3) (ret := (some .boolean)) (by decide) rfl (Nat.le_of_ble_eq_true rfl) (fun p e s m below meth c A ls C hl hP hD hS => wkX0_isLinked C z _ _ _ s.heap [] ls hz hP hD hS hl)
abbrev rmX0_decodeBlock : Room := { frames := 2, cells := 0, slots := 0, locals := 46 }
theorem inX0_decodeBlock_X0 : ∀ w ∈ wsX00, w ∈ wsX0_decodeBlock := by decide +kernel
set_option maxRecDepth 100000 in
set_option maxHeartbeats 4000000 in
theorem wkX0_decodeBlock_b83 {p : Program} {l : Launch} {e : Env} {s : State} {m : MethodId} {args : Array Value} {below : List Frame} {meth : Method} {c : Code} {D : va_G} {cI : ClassId} {A : Nat → Prop} {a0 a1 a2 a3 a4 a5 a6 a7 b0 : Nat} (C : cxt p s m args meth c cX0_decodeBlock none 8 RX0 wsX0_decodeBlock D vwCl [(cI, .int)] A) : ∀ (z : TC) (u : TC) (f0 : (Nat → Int32)) (x2 : Int32) (x3 : Int32) (x4 : Int32) (H : Heap) (locs : List Loc) (ls : Array Slot), fX0_decodeBlock_b83 u f0 x2 x3 x4 = some z → va_P D vwCl (wCm a0 a1 a2 a3 a4 a5 a6 a7 b0 cI u f0) H → va_D A (wCm a0 a1 a2 a3 a4 a5 a6 a7 b0 cI u f0) → va_S A s.heap H locs → lv_has ls 8 [(0, .ref a0), (2, .int x2), (3, .int x3), (4, .int x4)] → W p l e rmX0_decodeBlock s m args below meth c H locs 0 0 (MQ below (oV D vwCl [(cI, .int)] A (wCm a0 a1 a2 a3 a4 a5 a6 a7 b0 cI z f0)) args s 0 0 A) (F0 m 83 ls []) := by
  have C0 := C
  obtain ⟨hx, hb, hr, hml, hown, hts, hlocks, hK, hA⟩ := C
  intro z u f0 x2 x3 x4 H locs ls hf hP hD hS hl
  unfold fX0_decodeBlock_b83 at hf
  refine lv_aload_n hx hb dX0_decodeBlock_83 rfl (lv_at hl 0 rfl) ?_
  refine va_get (D := D) (ci := 0) (v := .ref a2) (C := RX0) (T := TX0) (N := 13) hx hb hts inX0_decodeBlock_X0 hown hK hP 0 rfl rfl 1 (by decide) (hts (.fieldLink RX0 15 "BlockCache$Cache" "length" "[I") (by decide +kernel)) (fun _ h9 => h9) rfl dX0_decodeBlock_84 ?_
  refine lv_iload_n hx hb dX0_decodeBlock_87 rfl (lv_at hl 1 rfl) ?_
  refine lv_iload hx hb dX0_decodeBlock_88 (lv_at hl 3 rfl) ?_
  obtain ⟨h_1, hf⟩ := pIn_out hf
  refine va_iast hx hb hK hP hD hS 2 0 rfl rfl h_1 dX0_decodeBlock_90 (fun H locs hP hD hS => ?_)
  obtain ⟨u_2, eu_2, hf⟩ := pLet_out hf
  replace hP : va_P D vwCl (wCm a0 a1 a2 a3 a4 a5 a6 a7 b0 cI u_2 f0) H := by rw [eu_2]; exact hP
  replace hD : va_D A (wCm a0 a1 a2 a3 a4 a5 a6 a7 b0 cI u_2 f0) := by rw [eu_2]; exact hD
  refine lv_aload_n hx hb dX0_decodeBlock_91 rfl (lv_at hl 0 rfl) ?_
  refine va_get (D := D) (ci := 0) (v := .ref a3) (C := RX0) (T := TX0) (N := 13) hx hb hts inX0_decodeBlock_X0 hown hK hP 0 rfl rfl 2 (by decide) (hts (.fieldLink RX0 18 "BlockCache$Cache" "behind" "[I") (by decide +kernel)) (fun _ h9 => h9) rfl dX0_decodeBlock_92 ?_
  refine lv_iload_n hx hb dX0_decodeBlock_95 rfl (lv_at hl 1 rfl) ?_
  refine lv_iload_n hx hb dX0_decodeBlock_96 rfl (lv_at hl 2 rfl) ?_
  obtain ⟨h_3, hf⟩ := pIn_out hf
  refine va_iast hx hb hK hP hD hS 3 0 rfl rfl h_3 dX0_decodeBlock_97 (fun H locs hP hD hS => ?_)
  obtain ⟨u_4, eu_4, hf⟩ := pLet_out hf
  replace hP : va_P D vwCl (wCm a0 a1 a2 a3 a4 a5 a6 a7 b0 cI u_4 f0) H := by rw [eu_4]; exact hP
  replace hD : va_D A (wCm a0 a1 a2 a3 a4 a5 a6 a7 b0 cI u_4 f0) := by rw [eu_4]; exact hD
  have hz := Option.some.inj hf
  subst hz
  exact gRetV hx hb hr hlocks hK hP hD hS rfl dX0_decodeBlock_98
set_option maxRecDepth 100000 in
set_option maxHeartbeats 4000000 in
theorem wkX0_decodeBlock_b8 {p : Program} {l : Launch} {e : Env} {s : State} {m : MethodId} {args : Array Value} {below : List Frame} {meth : Method} {c : Code} {D : va_G} {cI : ClassId} {A : Nat → Prop} {a0 a1 a2 a3 a4 a5 a6 a7 b0 : Nat} (C : cxt p s m args meth c cX0_decodeBlock none 8 RX0 wsX0_decodeBlock D vwCl [(cI, .int)] A) : ∀ (fu : Nat) (z : TC) (u : TC) (f0 : (Nat → Int32)) (x2 : Int32) (x3 : Int32) (x4 : Int32) (x5 : Int32) (H : Heap) (locs : List Loc) (ls : Array Slot), fX0_decodeBlock_b8 fu u f0 x2 x3 x4 x5 = some z → va_P D vwCl (wCm a0 a1 a2 a3 a4 a5 a6 a7 b0 cI u f0) H → va_D A (wCm a0 a1 a2 a3 a4 a5 a6 a7 b0 cI u f0) → va_S A s.heap H locs → lv_has ls 8 [(0, .ref a0), (1, .ref b0), (2, .int x2), (3, .int x3), (4, .int x4), (5, .int x5)] → W p l e rmX0_decodeBlock s m args below meth c H locs 0 0 (MQ below (oV D vwCl [(cI, .int)] A (wCm a0 a1 a2 a3 a4 a5 a6 a7 b0 cI z f0)) args s 0 0 A) (F0 m 8 ls []) := by
  have C0 := C
  obtain ⟨hx, hb, hr, hml, hown, hts, hlocks, hK, hA⟩ := C
  intro fu
  induction fu with
  | zero =>
    intro z u f0 x2 x3 x4 x5 H locs ls hf hP hD hS hl
    cases hf
  | succ nn ih =>
    intro z u f0 x2 x3 x4 x5 H locs ls hf hP hD hS hl
    simp only [fX0_decodeBlock_b8] at hf
    refine lv_iload hx hb dX0_decodeBlock_8 (lv_at hl 5 rfl) ?_
    refine lv_bipush (v := 8) hx hb dX0_decodeBlock_10 (by decide) ?_
    refine lv_icmp_ge (tgt := 83) hx hb dX0_decodeBlock_12 (by decide) (fun c_1 => ?_) (fun c_1 => ?_)
    · replace hf := pI_t c_1 hf
      exact wkX0_decodeBlock_b83 C0 _ _ _ _ _ _ H locs ls hf hP hD hS (lv_sub hl [0, 2, 3, 4] rfl)
    · replace hf := pI_f c_1 hf
      refine lv_aload_n hx hb dX0_decodeBlock_15 rfl (lv_at hl 1 rfl) ?_
      refine lv_iload_n hx hb dX0_decodeBlock_16 rfl (lv_at hl 3 rfl) ?_
      obtain ⟨z_2, hz_2, hf⟩ := pB_out hf
      refine gI (w' := (wCm a0 a1 a2 a3 a4 a5 a6 a7 b0 cI u f0)) (va_runS (As := [.ref b0, .int x3]) (rest := []) ⟨hx, hb, hml, hown, hts⟩ (ctX1_decode l D cI b0 f0 x3 z_2 hz_2 H.size) (va_cwS 2 hts gX0_decodeBlock_X1_decode rfl rfl rfl (by decide +kernel) ⟨Nat.le_of_ble_eq_true rfl, Nat.le_of_ble_eq_true rfl⟩) (gPreS hP hK hD [8] (by decide) rfl) rfl rfl hl.1 rfl (lv_room (Nat.le_of_ble_eq_true rfl)) dX0_decodeBlock_17 ⟨Nat.le_of_ble_eq_true rfl, Nat.le_of_ble_eq_true rfl⟩) hP hD hS hA [8] [0, 1, 2, 3, 4, 5, 6, 7] [0, 1, 2, 3, 4, 5, 6, 7, 8] rfl rfl (by decide) (by decide) rfl (by decide) (fun H locs hP hD hS => ?_)
      refine lv_istore (lv' := [(6, .int z_2), (0, .ref a0), (1, .ref b0), (2, .int x2), (3, .int x3), (4, .int x4), (5, .int x5)]) hx hb dX0_decodeBlock_20 hl (by decide) rfl (fun ls hl => ?_)
      refine lv_iload hx hb dX0_decodeBlock_22 (lv_at hl 0 rfl) ?_
      obtain ⟨z_3, hz_3, hf⟩ := pLet_out hf
      refine gI0 (va_runS (As := [.int z_2]) (rest := []) ⟨hx, hb, hml, hown, hts⟩ (ctX1_kind l D cI z_2 z_3 hz_3.symm H.size) (va_cwS 1 hts gX0_decodeBlock_X1_kind rfl rfl rfl (by decide +kernel) ⟨Nat.le_of_ble_eq_true rfl, Nat.le_of_ble_eq_true rfl⟩) (gPreS hP hK hD [] (by decide) rfl) rfl rfl hl.1 rfl (lv_room (Nat.le_of_ble_eq_true rfl)) dX0_decodeBlock_24 ⟨Nat.le_of_ble_eq_true rfl, Nat.le_of_ble_eq_true rfl⟩) hP hD hS hA (fun H locs hP hS => ?_)
      refine lv_istore (lv' := [(7, .int z_3), (6, .int z_2), (0, .ref a0), (1, .ref b0), (2, .int x2), (3, .int x3), (4, .int x4), (5, .int x5)]) hx hb dX0_decodeBlock_27 hl (by decide) rfl (fun ls hl => ?_)
      refine lv_iload hx hb dX0_decodeBlock_29 (lv_at hl 0 rfl) ?_
      refine lv_if_ne (tgt := 37) hx hb dX0_decodeBlock_31 (by decide) (fun c_4 => ?_) (fun c_4 => ?_)
      · replace hf := pI_f c_4 hf
        refine lv_aload_n hx hb dX0_decodeBlock_37 rfl (lv_at hl 2 rfl) ?_
        refine va_get (D := D) (ci := 0) (v := .ref a1) (C := RX0) (T := TX0) (N := 13) hx hb hts inX0_decodeBlock_X0 hown hK hP 0 rfl rfl 0 (by decide) (hts (.fieldLink RX0 11 "BlockCache$Cache" "code" "[I") (by decide +kernel)) (fun _ h9 => h9) rfl dX0_decodeBlock_38 ?_
        refine lv_iload_n hx hb dX0_decodeBlock_41 rfl (lv_at hl 4 rfl) ?_
        refine lv_bipush (v := 8) hx hb dX0_decodeBlock_42 (by decide) ?_
        refine lv_imul hx hb dX0_decodeBlock_44 ?_
        refine lv_iload hx hb dX0_decodeBlock_45 (lv_at hl 7 rfl) ?_
        refine lv_iadd hx hb dX0_decodeBlock_47 ?_
        refine lv_iload hx hb dX0_decodeBlock_48 (lv_at hl 1 rfl) ?_
        obtain ⟨h_5, hf⟩ := pIn_out hf
        refine va_iast hx hb hK hP hD hS 1 0 rfl rfl h_5 dX0_decodeBlock_50 (fun H locs hP hD hS => ?_)
        obtain ⟨u_6, eu_6, hf⟩ := pLet_out hf
        replace hP : va_P D vwCl (wCm a0 a1 a2 a3 a4 a5 a6 a7 b0 cI u_6 f0) H := by rw [eu_6]; exact hP
        replace hD : va_D A (wCm a0 a1 a2 a3 a4 a5 a6 a7 b0 cI u_6 f0) := by rw [eu_6]; exact hD
        obtain ⟨x_7, ex_7, hf⟩ := pLet_out hf
        refine lv_iinc (v := x_7) (lv' := [(4, .int x_7), (7, .int z_3), (6, .int z_2), (0, .ref a0), (1, .ref b0), (2, .int x2), (3, .int x3), (5, .int x5)]) hx hb dX0_decodeBlock_51 hl (k := 6) rfl (by rw [ex_7]; rfl) (by decide) rfl (fun ls hl => ?_)
        refine lv_iload_n hx hb dX0_decodeBlock_54 rfl (lv_at hl 6 rfl) ?_
        refine lv_iload hx hb dX0_decodeBlock_55 (lv_at hl 1 rfl) ?_
        obtain ⟨z_8, hz_8, hf⟩ := pLet_out hf
        refine gI0 (va_runS (As := [.int z_3]) (rest := [.int x3]) ⟨hx, hb, hml, hown, hts⟩ (ctX1_bytes l D cI z_3 z_8 hz_8.symm H.size) (va_cwS 1 hts gX0_decodeBlock_X1_bytes rfl rfl rfl (by decide +kernel) ⟨Nat.le_of_ble_eq_true rfl, Nat.le_of_ble_eq_true rfl⟩) (gPreS hP hK hD [] (by decide) rfl) rfl rfl hl.1 rfl (lv_room (Nat.le_of_ble_eq_true rfl)) dX0_decodeBlock_57 ⟨Nat.le_of_ble_eq_true rfl, Nat.le_of_ble_eq_true rfl⟩) hP hD hS hA (fun H locs hP hS => ?_)
        refine lv_iadd hx hb dX0_decodeBlock_60 ?_
        refine lv_sipush (v := 255) hx hb dX0_decodeBlock_61 (by decide) ?_
        refine lv_iand hx hb dX0_decodeBlock_64 ?_
        obtain ⟨x_9, ex_9, hf⟩ := pLet_out hf
        refine gTop ex_9 ?_
        refine lv_istore_n (lv' := [(3, .int x_9), (4, .int x_7), (7, .int z_3), (6, .int z_2), (0, .ref a0), (1, .ref b0), (2, .int x2), (5, .int x5)]) hx hb dX0_decodeBlock_65 rfl hl (by decide) rfl (fun ls hl => ?_)
        refine lv_iload hx hb dX0_decodeBlock_66 (lv_at hl 2 rfl) ?_
        obtain ⟨z_10, hz_10, hf⟩ := pLet_out hf
        refine gI0 (va_runS (As := [.int z_3]) (rest := []) ⟨hx, hb, hml, hown, hts⟩ (ctX1_endsBlock l D cI z_3 z_10 hz_10.symm H.size) (va_cwS 1 hts gX0_decodeBlock_X1_endsBlock rfl rfl rfl (by decide +kernel) ⟨Nat.le_of_ble_eq_true rfl, Nat.le_of_ble_eq_true rfl⟩) (gPreS hP hK hD [] (by decide) rfl) rfl rfl hl.1 rfl (lv_room (Nat.le_of_ble_eq_true rfl)) dX0_decodeBlock_68 ⟨Nat.le_of_ble_eq_true rfl, Nat.le_of_ble_eq_true rfl⟩) hP hD hS hA (fun H locs hP hS => ?_)
        refine lv_if_eq (tgt := 77) hx hb dX0_decodeBlock_71 (by decide) (fun c_11 => ?_) (fun c_11 => ?_)
        · replace hf := pI_t c_11 hf
          obtain ⟨x_12, ex_12, hf⟩ := pLet_out hf
          refine lv_iinc (v := x_12) (lv' := [(5, .int x_12), (3, .int x_9), (4, .int x_7), (7, .int z_3), (6, .int z_2), (0, .ref a0), (1, .ref b0), (2, .int x2)]) hx hb dX0_decodeBlock_77 hl (k := 7) rfl (by rw [ex_12]; rfl) (by decide) rfl (fun ls hl => ?_)
          refine lv_goto (tgt := 8) hx hb dX0_decodeBlock_80 (by decide) ?_
          exact ih _ _ _ _ _ _ _ H locs ls hf hP hD hS (lv_sub hl [5, 6, 7, 1, 2, 0] rfl)
        · replace hf := pI_f c_11 hf
          refine lv_goto (tgt := 83) hx hb dX0_decodeBlock_74 (by decide) ?_
          exact wkX0_decodeBlock_b83 C0 _ _ _ _ _ _ H locs ls hf hP hD hS (lv_sub hl [4, 6, 0, 1] rfl)
      · replace hf := pI_t c_4 hf
        refine lv_goto (tgt := 83) hx hb dX0_decodeBlock_34 (by decide) ?_
        exact wkX0_decodeBlock_b83 C0 _ _ _ _ _ _ H locs ls hf hP hD hS (lv_sub hl [2, 4, 5, 6] rfl)
set_option maxRecDepth 100000 in
set_option maxHeartbeats 4000000 in
theorem wkX0_decodeBlock {p : Program} {l : Launch} {e : Env} {s : State} {m : MethodId} {args : Array Value} {below : List Frame} {meth : Method} {c : Code} {D : va_G} {cI : ClassId} {A : Nat → Prop} {a0 a1 a2 a3 a4 a5 a6 a7 b0 : Nat} (C : cxt p s m args meth c cX0_decodeBlock none 8 RX0 wsX0_decodeBlock D vwCl [(cI, .int)] A) : ∀ (z : TC) (u : TC) (f0 : (Nat → Int32)) (x2 : Int32) (H : Heap) (locs : List Loc) (ls : Array Slot), fX0_decodeBlock u f0 x2 = some z → va_P D vwCl (wCm a0 a1 a2 a3 a4 a5 a6 a7 b0 cI u f0) H → va_D A (wCm a0 a1 a2 a3 a4 a5 a6 a7 b0 cI u f0) → va_S A s.heap H locs → lv_has ls 8 [(0, .ref a0), (1, .ref b0), (2, .int x2)] → W p l e rmX0_decodeBlock s m args below meth c H locs 0 0 (MQ below (oV D vwCl [(cI, .int)] A (wCm a0 a1 a2 a3 a4 a5 a6 a7 b0 cI z f0)) args s 0 0 A) (F0 m 0 ls []) := by
  have C0 := C
  obtain ⟨hx, hb, hr, hml, hown, hts, hlocks, hK, hA⟩ := C
  intro z u f0 x2 H locs ls hf hP hD hS hl
  unfold fX0_decodeBlock at hf
  refine lv_iload_n hx hb dX0_decodeBlock_0 rfl (lv_at hl 2 rfl) ?_
  refine lv_istore_n (lv' := [(3, .int x2), (0, .ref a0), (1, .ref b0), (2, .int x2)]) hx hb dX0_decodeBlock_1 rfl hl (by decide) rfl (fun ls hl => ?_)
  refine lv_iconst (v := 0) hx hb dX0_decodeBlock_2 (by decide) ?_
  refine lv_istore (lv' := [(4, .int 0), (3, .int x2), (0, .ref a0), (1, .ref b0), (2, .int x2)]) hx hb dX0_decodeBlock_3 hl (by decide) rfl (fun ls hl => ?_)
  refine lv_iconst (v := 0) hx hb dX0_decodeBlock_5 (by decide) ?_
  refine lv_istore (lv' := [(5, .int 0), (4, .int 0), (3, .int x2), (0, .ref a0), (1, .ref b0), (2, .int x2)]) hx hb dX0_decodeBlock_6 hl (by decide) rfl (fun ls hl => ?_)
  exact wkX0_decodeBlock_b8 C0 fuelX0_decodeBlock_8 _ _ _ _ _ _ _ H locs ls hf hP hD hS (lv_sub hl [3, 4, 5, 2, 1, 0] rfl)
theorem ctX0_decodeBlock (l : Launch) (D : va_G) (cI : ClassId) (a0 a1 a2 a3 a4 a5 a6 a7 b0 : Nat) (u : TC) (f0 : (Nat → Int32)) (x2 : Int32) (z : TC) (hz : fX0_decodeBlock u f0 x2 = some z) : CtV l yX0_decodeBlock wsX0_decodeBlock rmX0_decodeBlock D vwCl [(cI, .int)] [.ref a0, .ref b0, .int x2] (wCm a0 a1 a2 a3 a4 a5 a6 a7 b0 cI u f0) (wCm a0 a1 a2 a3 a4 a5 a6 a7 b0 cI z f0) :=
  ctV_of (cc := cX0_decodeBlock) (maxL := 8) (ret := none) (by decide) rfl (Nat.le_of_ble_eq_true rfl) (fun p e s m below meth c A ls C hl hP hD hS => wkX0_decodeBlock C z _ _ _ s.heap [] ls hz hP hD hS hl)
abbrev rmX0_wordAt : Room := { frames := 0, cells := 0, slots := 0, locals := 0 }
theorem inX0_wordAt_X0 : ∀ w ∈ wsX00, w ∈ wsX0_wordAt := by decide +kernel
set_option maxRecDepth 100000 in
set_option maxHeartbeats 4000000 in
theorem wkX0_wordAt {p : Program} {l : Launch} {e : Env} {s : State} {m : MethodId} {args : Array Value} {below : List Frame} {meth : Method} {c : Code} {D : va_G} {cI : ClassId} {A : Nat → Prop} {a0 a1 a2 a3 a4 a5 a6 a7 : Nat} (C : cxt p s m args meth c cX0_wordAt (some .int) 3 RX0 wsX0_wordAt D vwCl [(cI, .int)] A) : ∀ (z : Int32) (u : TC) (x1 : Int32) (x2 : Int32) (H : Heap) (locs : List Loc) (ls : Array Slot), fX0_wordAt u x1 x2 = some z → va_P D vwCl (wC a0 a1 a2 a3 a4 a5 a6 a7 cI u) H → va_D A (wC a0 a1 a2 a3 a4 a5 a6 a7 cI u) → va_S A s.heap H locs → lv_has ls 3 [(0, .ref a0), (1, .int x1), (2, .int x2)] → W p l e rmX0_wordAt s m args below meth c H locs 0 0 (MQ below (oI D vwCl [(cI, .int)] A z (wC a0 a1 a2 a3 a4 a5 a6 a7 cI u)) args s 0 0 A) (F0 m 0 ls []) := by
  have C0 := C
  obtain ⟨hx, hb, hr, hml, hown, hts, hlocks, hK, hA⟩ := C
  intro z u x1 x2 H locs ls hf hP hD hS hl
  unfold fX0_wordAt at hf
  refine lv_aload_n hx hb dX0_wordAt_0 rfl (lv_at hl 0 rfl) ?_
  refine va_get (D := D) (ci := 0) (v := .ref a1) (C := RX0) (T := TX0) (N := 13) hx hb hts inX0_wordAt_X0 hown hK hP 0 rfl rfl 0 (by decide) (hts (.fieldLink RX0 11 "BlockCache$Cache" "code" "[I") (by decide +kernel)) (fun _ h9 => h9) rfl dX0_wordAt_1 ?_
  refine lv_iload_n hx hb dX0_wordAt_4 rfl (lv_at hl 1 rfl) ?_
  refine lv_bipush (v := 8) hx hb dX0_wordAt_5 (by decide) ?_
  refine lv_imul hx hb dX0_wordAt_7 ?_
  refine lv_iload_n hx hb dX0_wordAt_8 rfl (lv_at hl 2 rfl) ?_
  refine lv_iadd hx hb dX0_wordAt_9 ?_
  obtain ⟨h_1, hf⟩ := pIn_out hf
  refine va_iald hx hb hK hP 1 0 rfl rfl h_1 dX0_wordAt_10 ?_
  have hz := Option.some.inj hf
  subst hz
  exact gRetI hx hb hr hlocks hK hP hD hS rfl rfl dX0_wordAt_11
theorem ctX0_wordAt (l : Launch) (D : va_G) (cI : ClassId) (a0 a1 a2 a3 a4 a5 a6 a7 : Nat) (u : TC) (x1 : Int32) (x2 : Int32) (z : Int32) (hz : fX0_wordAt u x1 x2 = some z) : CtI l yX0_wordAt wsX0_wordAt rmX0_wordAt D vwCl [(cI, .int)] [.ref a0, .int x1, .int x2] (wC a0 a1 a2 a3 a4 a5 a6 a7 cI u) z (wC a0 a1 a2 a3 a4 a5 a6 a7 cI u) :=
  ctI_of (cc := cX0_wordAt) (maxL := 3) (ret := (some .int)) (by decide) rfl (Nat.le_of_ble_eq_true rfl) (fun p e s m below meth c A ls C hl hP hD hS => wkX0_wordAt C z _ _ _ s.heap [] ls hz hP hD hS hl)
abbrev rmX0_markDead : Room := { frames := 1, cells := 0, slots := 0, locals := 22 }
theorem inX0_markDead_X0 : ∀ w ∈ wsX00, w ∈ wsX0_markDead := by decide +kernel
set_option maxRecDepth 100000 in
set_option maxHeartbeats 4000000 in
theorem wkX0_markDead_b93 {p : Program} {l : Launch} {e : Env} {s : State} {m : MethodId} {args : Array Value} {below : List Frame} {meth : Method} {c : Code} {D : va_G} {cI : ClassId} {A : Nat → Prop} {a0 a1 a2 a3 a4 a5 a6 a7 : Nat} (C : cxt p s m args meth c cX0_markDead (some .int) 8 RX0 wsX0_markDead D vwCl [(cI, .int)] A) {K14 : TC → Int32 → Int32 → Int32 → Int32 → Option (Int32 × TC)} (hK14 : ∀ (z : Int32 × TC) (u : TC) (x1 : Int32) (x2 : Int32) (x3 : Int32) (x4 : Int32) (H : Heap) (locs : List Loc) (ls : Array Slot), K14 u x1 x2 x3 x4 = some z → va_P D vwCl (wC a0 a1 a2 a3 a4 a5 a6 a7 cI u) H → va_D A (wC a0 a1 a2 a3 a4 a5 a6 a7 cI u) → va_S A s.heap H locs → lv_has ls 8 [(0, .ref a0), (1, .int x1), (2, .int x2), (3, .int x3), (4, .int x4)] → W p l e rmX0_markDead s m args below meth c H locs 0 0 (MQ below (oI D vwCl [(cI, .int)] A z.1 (wC a0 a1 a2 a3 a4 a5 a6 a7 cI z.2)) args s 0 0 A) (F0 m 14 ls [])) : ∀ (z : Int32 × TC) (u : TC) (x1 : Int32) (x2 : Int32) (x4 : Int32) (y0 : Int32) (H : Heap) (locs : List Loc) (ls : Array Slot), fX0_markDead_b93 K14 u x1 x2 x4 y0 = some z → va_P D vwCl (wC a0 a1 a2 a3 a4 a5 a6 a7 cI u) H → va_D A (wC a0 a1 a2 a3 a4 a5 a6 a7 cI u) → va_S A s.heap H locs → lv_has ls 8 [(0, .ref a0), (1, .int x1), (2, .int x2), (4, .int x4)] → W p l e rmX0_markDead s m args below meth c H locs 0 0 (MQ below (oI D vwCl [(cI, .int)] A z.1 (wC a0 a1 a2 a3 a4 a5 a6 a7 cI z.2)) args s 0 0 A) (F0 m 93 ls [.int y0]) := by
  have C0 := C
  obtain ⟨hx, hb, hr, hml, hown, hts, hlocks, hK, hA⟩ := C
  intro z u x1 x2 x4 y0 H locs ls hf hP hD hS hl
  unfold fX0_markDead_b93 at hf
  refine lv_istore_n (lv' := [(3, .int y0), (0, .ref a0), (1, .int x1), (2, .int x2), (4, .int x4)]) hx hb dX0_markDead_93 rfl hl (by decide) rfl (fun ls hl => ?_)
  obtain ⟨x_1, ex_1, hf⟩ := pLet_out hf
  refine lv_iinc (v := x_1) (lv' := [(4, .int x_1), (3, .int y0), (0, .ref a0), (1, .int x1), (2, .int x2)]) hx hb dX0_markDead_94 hl (k := 4) rfl (by rw [ex_1]; rfl) (by decide) rfl (fun ls hl => ?_)
  refine lv_goto (tgt := 14) hx hb dX0_markDead_97 (by decide) ?_
  exact hK14 _ _ _ _ _ _ H locs ls hf hP hD hS (lv_sub hl [2, 3, 4, 1, 0] rfl)
set_option maxRecDepth 100000 in
set_option maxHeartbeats 4000000 in
theorem wkX0_markDead_b88 {p : Program} {l : Launch} {e : Env} {s : State} {m : MethodId} {args : Array Value} {below : List Frame} {meth : Method} {c : Code} {D : va_G} {cI : ClassId} {A : Nat → Prop} {a0 a1 a2 a3 a4 a5 a6 a7 : Nat} (C : cxt p s m args meth c cX0_markDead (some .int) 8 RX0 wsX0_markDead D vwCl [(cI, .int)] A) {K14 : TC → Int32 → Int32 → Int32 → Int32 → Option (Int32 × TC)} (hK14 : ∀ (z : Int32 × TC) (u : TC) (x1 : Int32) (x2 : Int32) (x3 : Int32) (x4 : Int32) (H : Heap) (locs : List Loc) (ls : Array Slot), K14 u x1 x2 x3 x4 = some z → va_P D vwCl (wC a0 a1 a2 a3 a4 a5 a6 a7 cI u) H → va_D A (wC a0 a1 a2 a3 a4 a5 a6 a7 cI u) → va_S A s.heap H locs → lv_has ls 8 [(0, .ref a0), (1, .int x1), (2, .int x2), (3, .int x3), (4, .int x4)] → W p l e rmX0_markDead s m args below meth c H locs 0 0 (MQ below (oI D vwCl [(cI, .int)] A z.1 (wC a0 a1 a2 a3 a4 a5 a6 a7 cI z.2)) args s 0 0 A) (F0 m 14 ls [])) : ∀ (z : Int32 × TC) (u : TC) (x1 : Int32) (x2 : Int32) (x4 : Int32) (H : Heap) (locs : List Loc) (ls : Array Slot), fX0_markDead_b88 K14 u x1 x2 x4 = some z → va_P D vwCl (wC a0 a1 a2 a3 a4 a5 a6 a7 cI u) H → va_D A (wC a0 a1 a2 a3 a4 a5 a6 a7 cI u) → va_S A s.heap H locs → lv_has ls 8 [(0, .ref a0), (1, .int x1), (2, .int x2), (4, .int x4)] → W p l e rmX0_markDead s m args below meth c H locs 0 0 (MQ below (oI D vwCl [(cI, .int)] A z.1 (wC a0 a1 a2 a3 a4 a5 a6 a7 cI z.2)) args s 0 0 A) (F0 m 88 ls []) := by
  have C0 := C
  obtain ⟨hx, hb, hr, hml, hown, hts, hlocks, hK, hA⟩ := C
  intro z u x1 x2 x4 H locs ls hf hP hD hS hl
  unfold fX0_markDead_b88 at hf
  refine lv_iconst (v := 1) hx hb dX0_markDead_88 (by decide) ?_
  refine lv_goto (tgt := 93) hx hb dX0_markDead_89 (by decide) ?_
  exact wkX0_markDead_b93 C0 hK14 _ _ _ _ _ _ H locs ls hf hP hD hS (lv_sub hl [0, 1, 2, 3] rfl)
set_option maxRecDepth 100000 in
set_option maxHeartbeats 4000000 in
theorem wkX0_markDead_b92 {p : Program} {l : Launch} {e : Env} {s : State} {m : MethodId} {args : Array Value} {below : List Frame} {meth : Method} {c : Code} {D : va_G} {cI : ClassId} {A : Nat → Prop} {a0 a1 a2 a3 a4 a5 a6 a7 : Nat} (C : cxt p s m args meth c cX0_markDead (some .int) 8 RX0 wsX0_markDead D vwCl [(cI, .int)] A) {K14 : TC → Int32 → Int32 → Int32 → Int32 → Option (Int32 × TC)} (hK14 : ∀ (z : Int32 × TC) (u : TC) (x1 : Int32) (x2 : Int32) (x3 : Int32) (x4 : Int32) (H : Heap) (locs : List Loc) (ls : Array Slot), K14 u x1 x2 x3 x4 = some z → va_P D vwCl (wC a0 a1 a2 a3 a4 a5 a6 a7 cI u) H → va_D A (wC a0 a1 a2 a3 a4 a5 a6 a7 cI u) → va_S A s.heap H locs → lv_has ls 8 [(0, .ref a0), (1, .int x1), (2, .int x2), (3, .int x3), (4, .int x4)] → W p l e rmX0_markDead s m args below meth c H locs 0 0 (MQ below (oI D vwCl [(cI, .int)] A z.1 (wC a0 a1 a2 a3 a4 a5 a6 a7 cI z.2)) args s 0 0 A) (F0 m 14 ls [])) : ∀ (z : Int32 × TC) (u : TC) (x1 : Int32) (x2 : Int32) (x4 : Int32) (H : Heap) (locs : List Loc) (ls : Array Slot), fX0_markDead_b92 K14 u x1 x2 x4 = some z → va_P D vwCl (wC a0 a1 a2 a3 a4 a5 a6 a7 cI u) H → va_D A (wC a0 a1 a2 a3 a4 a5 a6 a7 cI u) → va_S A s.heap H locs → lv_has ls 8 [(0, .ref a0), (1, .int x1), (2, .int x2), (4, .int x4)] → W p l e rmX0_markDead s m args below meth c H locs 0 0 (MQ below (oI D vwCl [(cI, .int)] A z.1 (wC a0 a1 a2 a3 a4 a5 a6 a7 cI z.2)) args s 0 0 A) (F0 m 92 ls []) := by
  have C0 := C
  obtain ⟨hx, hb, hr, hml, hown, hts, hlocks, hK, hA⟩ := C
  intro z u x1 x2 x4 H locs ls hf hP hD hS hl
  unfold fX0_markDead_b92 at hf
  refine lv_iconst (v := 0) hx hb dX0_markDead_92 (by decide) ?_
  exact wkX0_markDead_b93 C0 hK14 _ _ _ _ _ _ H locs ls hf hP hD hS (lv_sub hl [0, 1, 2, 3] rfl)
set_option maxRecDepth 100000 in
set_option maxHeartbeats 4000000 in
theorem wkX0_markDead_b71 {p : Program} {l : Launch} {e : Env} {s : State} {m : MethodId} {args : Array Value} {below : List Frame} {meth : Method} {c : Code} {D : va_G} {cI : ClassId} {A : Nat → Prop} {a0 a1 a2 a3 a4 a5 a6 a7 : Nat} (C : cxt p s m args meth c cX0_markDead (some .int) 8 RX0 wsX0_markDead D vwCl [(cI, .int)] A) {K14 : TC → Int32 → Int32 → Int32 → Int32 → Option (Int32 × TC)} (hK14 : ∀ (z : Int32 × TC) (u : TC) (x1 : Int32) (x2 : Int32) (x3 : Int32) (x4 : Int32) (H : Heap) (locs : List Loc) (ls : Array Slot), K14 u x1 x2 x3 x4 = some z → va_P D vwCl (wC a0 a1 a2 a3 a4 a5 a6 a7 cI u) H → va_D A (wC a0 a1 a2 a3 a4 a5 a6 a7 cI u) → va_S A s.heap H locs → lv_has ls 8 [(0, .ref a0), (1, .int x1), (2, .int x2), (3, .int x3), (4, .int x4)] → W p l e rmX0_markDead s m args below meth c H locs 0 0 (MQ below (oI D vwCl [(cI, .int)] A z.1 (wC a0 a1 a2 a3 a4 a5 a6 a7 cI z.2)) args s 0 0 A) (F0 m 14 ls [])) : ∀ (z : Int32 × TC) (u : TC) (x1 : Int32) (x2 : Int32) (x3 : Int32) (x4 : Int32) (x6 : Int32) (x7 : Int32) (H : Heap) (locs : List Loc) (ls : Array Slot), fX0_markDead_b71 K14 u x1 x2 x3 x4 x6 x7 = some z → va_P D vwCl (wC a0 a1 a2 a3 a4 a5 a6 a7 cI u) H → va_D A (wC a0 a1 a2 a3 a4 a5 a6 a7 cI u) → va_S A s.heap H locs → lv_has ls 8 [(0, .ref a0), (1, .int x1), (2, .int x2), (3, .int x3), (4, .int x4), (6, .int x6), (7, .int x7)] → W p l e rmX0_markDead s m args below meth c H locs 0 0 (MQ below (oI D vwCl [(cI, .int)] A z.1 (wC a0 a1 a2 a3 a4 a5 a6 a7 cI z.2)) args s 0 0 A) (F0 m 71 ls []) := by
  have C0 := C
  obtain ⟨hx, hb, hr, hml, hown, hts, hlocks, hK, hA⟩ := C
  intro z u x1 x2 x3 x4 x6 x7 H locs ls hf hP hD hS hl
  unfold fX0_markDead_b71 at hf
  refine lv_iload hx hb dX0_markDead_71 (lv_at hl 5 rfl) ?_
  obtain ⟨z_1, hz_1, hf⟩ := pLet_out hf
  refine gI0 (va_runS (As := [.int x6]) (rest := []) ⟨hx, hb, hml, hown, hts⟩ (ctX1_needsFlags l D cI x6 z_1 hz_1.symm H.size) (va_cwS 1 hts gX0_markDead_X1_needsFlags rfl rfl rfl (by decide +kernel) ⟨Nat.le_of_ble_eq_true rfl, Nat.le_of_ble_eq_true rfl⟩) (gPreS hP hK hD [] (by decide) rfl) rfl rfl hl.1 rfl (lv_room (Nat.le_of_ble_eq_true rfl)) dX0_markDead_73 ⟨Nat.le_of_ble_eq_true rfl, Nat.le_of_ble_eq_true rfl⟩) hP hD hS hA (fun H locs hP hS => ?_)
  refine lv_if_ne (tgt := 92) hx hb dX0_markDead_76 (by decide) (fun c_2 => ?_) (fun c_2 => ?_)
  · replace hf := pI_f c_2 hf
    exact wkX0_markDead_b92 C0 hK14 _ _ _ _ _ H locs ls hf hP hD hS (lv_sub hl [0, 1, 2, 4] rfl)
  · replace hf := pI_t c_2 hf
    refine lv_iload hx hb dX0_markDead_79 (lv_at hl 6 rfl) ?_
    refine lv_if_ne (tgt := 88) hx hb dX0_markDead_81 (by decide) (fun c_3 => ?_) (fun c_3 => ?_)
    · replace hf := pI_f c_3 hf
      exact wkX0_markDead_b88 C0 hK14 _ _ _ _ _ H locs ls hf hP hD hS (lv_sub hl [0, 1, 2, 4] rfl)
    · replace hf := pI_t c_3 hf
      refine lv_iload_n hx hb dX0_markDead_84 rfl (lv_at hl 3 rfl) ?_
      refine lv_if_eq (tgt := 92) hx hb dX0_markDead_85 (by decide) (fun c_4 => ?_) (fun c_4 => ?_)
      · replace hf := pI_t c_4 hf
        exact wkX0_markDead_b92 C0 hK14 _ _ _ _ _ H locs ls hf hP hD hS (lv_sub hl [0, 1, 2, 4] rfl)
      · replace hf := pI_f c_4 hf
        exact wkX0_markDead_b88 C0 hK14 _ _ _ _ _ H locs ls hf hP hD hS (lv_sub hl [0, 1, 2, 4] rfl)
set_option maxRecDepth 100000 in
set_option maxHeartbeats 4000000 in
theorem wkX0_markDead_b14 {p : Program} {l : Launch} {e : Env} {s : State} {m : MethodId} {args : Array Value} {below : List Frame} {meth : Method} {c : Code} {D : va_G} {cI : ClassId} {A : Nat → Prop} {a0 a1 a2 a3 a4 a5 a6 a7 : Nat} (C : cxt p s m args meth c cX0_markDead (some .int) 8 RX0 wsX0_markDead D vwCl [(cI, .int)] A) : ∀ (fu : Nat) (z : Int32 × TC) (u : TC) (x1 : Int32) (x2 : Int32) (x3 : Int32) (x4 : Int32) (H : Heap) (locs : List Loc) (ls : Array Slot), fX0_markDead_b14 fu u x1 x2 x3 x4 = some z → va_P D vwCl (wC a0 a1 a2 a3 a4 a5 a6 a7 cI u) H → va_D A (wC a0 a1 a2 a3 a4 a5 a6 a7 cI u) → va_S A s.heap H locs → lv_has ls 8 [(0, .ref a0), (1, .int x1), (2, .int x2), (3, .int x3), (4, .int x4)] → W p l e rmX0_markDead s m args below meth c H locs 0 0 (MQ below (oI D vwCl [(cI, .int)] A z.1 (wC a0 a1 a2 a3 a4 a5 a6 a7 cI z.2)) args s 0 0 A) (F0 m 14 ls []) := by
  have C0 := C
  obtain ⟨hx, hb, hr, hml, hown, hts, hlocks, hK, hA⟩ := C
  intro fu
  induction fu with
  | zero =>
    intro z u x1 x2 x3 x4 H locs ls hf hP hD hS hl
    cases hf
  | succ nn ih =>
    intro z u x1 x2 x3 x4 H locs ls hf hP hD hS hl
    simp only [fX0_markDead_b14] at hf
    refine lv_iload hx hb dX0_markDead_14 (lv_at hl 4 rfl) ?_
    refine lv_if_lt (tgt := 100) hx hb dX0_markDead_16 (by decide) (fun c_1 => ?_) (fun c_1 => ?_)
    · replace hf := pI_t c_1 hf
      refine lv_iload_n hx hb dX0_markDead_100 rfl (lv_at hl 2 rfl) ?_
      have hz := Option.some.inj hf
      subst hz
      exact gRetI hx hb hr hlocks hK hP hD hS rfl rfl dX0_markDead_101
    · replace hf := pI_f c_1 hf
      refine lv_aload_n hx hb dX0_markDead_19 rfl (lv_at hl 0 rfl) ?_
      refine lv_iload_n hx hb dX0_markDead_20 rfl (lv_at hl 1 rfl) ?_
      refine lv_iload hx hb dX0_markDead_21 (lv_at hl 4 rfl) ?_
      obtain ⟨z_2, hz_2, hf⟩ := pB_out hf
      refine gI (w' := (wC a0 a1 a2 a3 a4 a5 a6 a7 cI u)) (va_runV (As := [.int x1, .int x4]) (rest := []) ⟨hx, hb, hml, hown, hts⟩ (ctX0_wordAt l D cI a0 a1 a2 a3 a4 a5 a6 a7 u x1 x4 z_2 hz_2 H.size) (cwV 2 hts gX0_markDead_X0_wordAt rfl rfl rfl (by decide +kernel) ⟨Nat.le_of_ble_eq_true rfl, Nat.le_of_ble_eq_true rfl⟩) (gPreV (ci := 0) (C := RX0) (T := TX0) (N := 13) hP hK hD [0, 1, 2, 3, 4, 5, 6, 7] (by decide) rfl 0 rfl rfl) rfl rfl hl.1 rfl (lv_room (Nat.le_of_ble_eq_true rfl)) dX0_markDead_23 ⟨Nat.le_of_ble_eq_true rfl, Nat.le_of_ble_eq_true rfl⟩) hP hD hS hA [0, 1, 2, 3, 4, 5, 6, 7] [] [0, 1, 2, 3, 4, 5, 6, 7] rfl rfl (by decide) (by decide) rfl (by decide) (fun H locs hP hD hS => ?_)
      refine lv_istore (lv' := [(5, .int z_2), (0, .ref a0), (1, .int x1), (2, .int x2), (3, .int x3), (4, .int x4)]) hx hb dX0_markDead_26 hl (by decide) rfl (fun ls hl => ?_)
      refine lv_iload hx hb dX0_markDead_28 (lv_at hl 0 rfl) ?_
      obtain ⟨z_3, hz_3, hf⟩ := pLet_out hf
      refine gI0 (va_runS (As := [.int z_2]) (rest := []) ⟨hx, hb, hml, hown, hts⟩ (ctX1_kind l D cI z_2 z_3 hz_3.symm H.size) (va_cwS 1 hts gX0_markDead_X1_kind rfl rfl rfl (by decide +kernel) ⟨Nat.le_of_ble_eq_true rfl, Nat.le_of_ble_eq_true rfl⟩) (gPreS hP hK hD [] (by decide) rfl) rfl rfl hl.1 rfl (lv_room (Nat.le_of_ble_eq_true rfl)) dX0_markDead_30 ⟨Nat.le_of_ble_eq_true rfl, Nat.le_of_ble_eq_true rfl⟩) hP hD hS hA (fun H locs hP hS => ?_)
      refine lv_istore (lv' := [(6, .int z_3), (5, .int z_2), (0, .ref a0), (1, .int x1), (2, .int x2), (3, .int x3), (4, .int x4)]) hx hb dX0_markDead_33 hl (by decide) rfl (fun ls hl => ?_)
      refine lv_iload hx hb dX0_markDead_35 (lv_at hl 0 rfl) ?_
      obtain ⟨z_4, hz_4, hf⟩ := pLet_out hf
      refine gI0 (va_runS (As := [.int z_3]) (rest := []) ⟨hx, hb, hml, hown, hts⟩ (ctX1_makesFlags l D cI z_3 z_4 hz_4.symm H.size) (va_cwS 1 hts gX0_markDead_X1_makesFlags rfl rfl rfl (by decide +kernel) ⟨Nat.le_of_ble_eq_true rfl, Nat.le_of_ble_eq_true rfl⟩) (gPreS hP hK hD [] (by decide) rfl) rfl rfl hl.1 rfl (lv_room (Nat.le_of_ble_eq_true rfl)) dX0_markDead_37 ⟨Nat.le_of_ble_eq_true rfl, Nat.le_of_ble_eq_true rfl⟩) hP hD hS hA (fun H locs hP hS => ?_)
      refine lv_istore (lv' := [(7, .int z_4), (6, .int z_3), (5, .int z_2), (0, .ref a0), (1, .int x1), (2, .int x2), (3, .int x3), (4, .int x4)]) hx hb dX0_markDead_40 hl (by decide) rfl (fun ls hl => ?_)
      refine lv_iload hx hb dX0_markDead_42 (lv_at hl 0 rfl) ?_
      refine lv_if_eq (tgt := 71) hx hb dX0_markDead_44 (by decide) (fun c_5 => ?_) (fun c_5 => ?_)
      · replace hf := pI_t c_5 hf
        exact wkX0_markDead_b71 C0 ih _ _ _ _ _ _ _ _ H locs ls hf hP hD hS (lv_sub hl [3, 4, 5, 6, 7, 1, 0] rfl)
      · replace hf := pI_f c_5 hf
        refine lv_iload_n hx hb dX0_markDead_47 rfl (lv_at hl 6 rfl) ?_
        refine lv_if_eq (tgt := 71) hx hb dX0_markDead_48 (by decide) (fun c_6 => ?_) (fun c_6 => ?_)
        · replace hf := pI_t c_6 hf
          exact wkX0_markDead_b71 C0 ih _ _ _ _ _ _ _ _ H locs ls hf hP hD hS (lv_sub hl [3, 4, 5, 6, 7, 1, 0] rfl)
        · replace hf := pI_f c_6 hf
          refine lv_aload_n hx hb dX0_markDead_51 rfl (lv_at hl 3 rfl) ?_
          refine va_get (D := D) (ci := 0) (v := .ref a1) (C := RX0) (T := TX0) (N := 13) hx hb hts inX0_markDead_X0 hown hK hP 0 rfl rfl 0 (by decide) (hts (.fieldLink RX0 11 "BlockCache$Cache" "code" "[I") (by decide +kernel)) (fun _ h9 => h9) rfl dX0_markDead_52 ?_
          refine lv_iload_n hx hb dX0_markDead_55 rfl (lv_at hl 4 rfl) ?_
          refine lv_bipush (v := 8) hx hb dX0_markDead_56 (by decide) ?_
          refine lv_imul hx hb dX0_markDead_58 ?_
          refine lv_iload hx hb dX0_markDead_59 (lv_at hl 7 rfl) ?_
          refine lv_iadd hx hb dX0_markDead_61 ?_
          refine lv_iload hx hb dX0_markDead_62 (lv_at hl 2 rfl) ?_
          obtain ⟨z_7, hz_7, hf⟩ := pLet_out hf
          refine gI0 (va_runS (As := [.int z_2]) (rest := [.int ((x1 * 8) + x4), .ref a1]) ⟨hx, hb, hml, hown, hts⟩ (ctX1_asDead l D cI z_2 z_7 hz_7.symm H.size) (va_cwS 1 hts gX0_markDead_X1_asDead rfl rfl rfl (by decide +kernel) ⟨Nat.le_of_ble_eq_true rfl, Nat.le_of_ble_eq_true rfl⟩) (gPreS hP hK hD [] (by decide) rfl) rfl rfl hl.1 rfl (lv_room (Nat.le_of_ble_eq_true rfl)) dX0_markDead_64 ⟨Nat.le_of_ble_eq_true rfl, Nat.le_of_ble_eq_true rfl⟩) hP hD hS hA (fun H locs hP hS => ?_)
          obtain ⟨h_8, hf⟩ := pIn_out hf
          refine va_iast hx hb hK hP hD hS 1 0 rfl rfl h_8 dX0_markDead_67 (fun H locs hP hD hS => ?_)
          obtain ⟨u_9, eu_9, hf⟩ := pLet_out hf
          replace hP : va_P D vwCl (wC a0 a1 a2 a3 a4 a5 a6 a7 cI u_9) H := by rw [eu_9]; exact hP
          replace hD : va_D A (wC a0 a1 a2 a3 a4 a5 a6 a7 cI u_9) := by rw [eu_9]; exact hD
          obtain ⟨x_10, ex_10, hf⟩ := pLet_out hf
          refine lv_iinc (v := x_10) (lv' := [(2, .int x_10), (7, .int z_4), (6, .int z_3), (5, .int z_2), (0, .ref a0), (1, .int x1), (3, .int x3), (4, .int x4)]) hx hb dX0_markDead_68 hl (k := 5) rfl (by rw [ex_10]; rfl) (by decide) rfl (fun ls hl => ?_)
          exact wkX0_markDead_b71 C0 ih _ _ _ _ _ _ _ _ H locs ls hf hP hD hS (lv_sub hl [4, 5, 0, 6, 7, 2, 1] rfl)
set_option maxRecDepth 100000 in
set_option maxHeartbeats 4000000 in
theorem wkX0_markDead {p : Program} {l : Launch} {e : Env} {s : State} {m : MethodId} {args : Array Value} {below : List Frame} {meth : Method} {c : Code} {D : va_G} {cI : ClassId} {A : Nat → Prop} {a0 a1 a2 a3 a4 a5 a6 a7 : Nat} (C : cxt p s m args meth c cX0_markDead (some .int) 8 RX0 wsX0_markDead D vwCl [(cI, .int)] A) : ∀ (z : Int32 × TC) (u : TC) (x1 : Int32) (H : Heap) (locs : List Loc) (ls : Array Slot), fX0_markDead u x1 = some z → va_P D vwCl (wC a0 a1 a2 a3 a4 a5 a6 a7 cI u) H → va_D A (wC a0 a1 a2 a3 a4 a5 a6 a7 cI u) → va_S A s.heap H locs → lv_has ls 8 [(0, .ref a0), (1, .int x1)] → W p l e rmX0_markDead s m args below meth c H locs 0 0 (MQ below (oI D vwCl [(cI, .int)] A z.1 (wC a0 a1 a2 a3 a4 a5 a6 a7 cI z.2)) args s 0 0 A) (F0 m 0 ls []) := by
  have C0 := C
  obtain ⟨hx, hb, hr, hml, hown, hts, hlocks, hK, hA⟩ := C
  intro z u x1 H locs ls hf hP hD hS hl
  unfold fX0_markDead at hf
  refine lv_iconst (v := 0) hx hb dX0_markDead_0 (by decide) ?_
  refine lv_istore_n (lv' := [(2, .int 0), (0, .ref a0), (1, .int x1)]) hx hb dX0_markDead_1 rfl hl (by decide) rfl (fun ls hl => ?_)
  refine lv_iconst (v := 0) hx hb dX0_markDead_2 (by decide) ?_
  refine lv_istore_n (lv' := [(3, .int 0), (2, .int 0), (0, .ref a0), (1, .int x1)]) hx hb dX0_markDead_3 rfl hl (by decide) rfl (fun ls hl => ?_)
  refine lv_aload_n hx hb dX0_markDead_4 rfl (lv_at hl 2 rfl) ?_
  refine va_get (D := D) (ci := 0) (v := .ref a2) (C := RX0) (T := TX0) (N := 13) hx hb hts inX0_markDead_X0 hown hK hP 0 rfl rfl 1 (by decide) (hts (.fieldLink RX0 15 "BlockCache$Cache" "length" "[I") (by decide +kernel)) (fun _ h9 => h9) rfl dX0_markDead_5 ?_
  refine lv_iload_n hx hb dX0_markDead_8 rfl (lv_at hl 3 rfl) ?_
  obtain ⟨h_1, hf⟩ := pIn_out hf
  refine va_iald hx hb hK hP 2 0 rfl rfl h_1 dX0_markDead_9 ?_
  refine lv_iconst (v := 1) hx hb dX0_markDead_10 (by decide) ?_
  refine lv_isub hx hb dX0_markDead_11 ?_
  obtain ⟨x_2, ex_2, hf⟩ := pLet_out hf
  refine gTop ex_2 ?_
  refine lv_istore (lv' := [(4, .int x_2), (3, .int 0), (2, .int 0), (0, .ref a0), (1, .int x1)]) hx hb dX0_markDead_12 hl (by decide) rfl (fun ls hl => ?_)
  exact wkX0_markDead_b14 C0 fuelX0_markDead_14 _ _ _ _ _ _ H locs ls hf hP hD hS (lv_sub hl [3, 4, 2, 1, 0] rfl)
theorem ctX0_markDead (l : Launch) (D : va_G) (cI : ClassId) (a0 a1 a2 a3 a4 a5 a6 a7 : Nat) (u : TC) (x1 : Int32) (z : Int32 × TC) (hz : fX0_markDead u x1 = some z) : CtI l yX0_markDead wsX0_markDead rmX0_markDead D vwCl [(cI, .int)] [.ref a0, .int x1] (wC a0 a1 a2 a3 a4 a5 a6 a7 cI u) z.1 (wC a0 a1 a2 a3 a4 a5 a6 a7 cI z.2) :=
  ctI_of (cc := cX0_markDead) (maxL := 8) (ret := (some .int)) (by decide) rfl (Nat.le_of_ble_eq_true rfl) (fun p e s m below meth c A ls C hl hP hD hS => wkX0_markDead C z _ _ s.heap [] ls hz hP hD hS hl)
abbrev rmX0_lastKind : Room := { frames := 1, cells := 0, slots := 0, locals := 22 }
theorem inX0_lastKind_X0 : ∀ w ∈ wsX00, w ∈ wsX0_lastKind := by decide +kernel
set_option maxRecDepth 100000 in
set_option maxHeartbeats 4000000 in
theorem wkX0_lastKind {p : Program} {l : Launch} {e : Env} {s : State} {m : MethodId} {args : Array Value} {below : List Frame} {meth : Method} {c : Code} {D : va_G} {cI : ClassId} {A : Nat → Prop} {a0 a1 a2 a3 a4 a5 a6 a7 : Nat} (C : cxt p s m args meth c cX0_lastKind (some .int) 2 RX0 wsX0_lastKind D vwCl [(cI, .int)] A) : ∀ (z : Int32) (u : TC) (x1 : Int32) (H : Heap) (locs : List Loc) (ls : Array Slot), fX0_lastKind u x1 = some z → va_P D vwCl (wC a0 a1 a2 a3 a4 a5 a6 a7 cI u) H → va_D A (wC a0 a1 a2 a3 a4 a5 a6 a7 cI u) → va_S A s.heap H locs → lv_has ls 2 [(0, .ref a0), (1, .int x1)] → W p l e rmX0_lastKind s m args below meth c H locs 0 0 (MQ below (oI D vwCl [(cI, .int)] A z (wC a0 a1 a2 a3 a4 a5 a6 a7 cI u)) args s 0 0 A) (F0 m 0 ls []) := by
  have C0 := C
  obtain ⟨hx, hb, hr, hml, hown, hts, hlocks, hK, hA⟩ := C
  intro z u x1 H locs ls hf hP hD hS hl
  unfold fX0_lastKind at hf
  refine lv_aload_n hx hb dX0_lastKind_0 rfl (lv_at hl 0 rfl) ?_
  refine va_get (D := D) (ci := 0) (v := .ref a2) (C := RX0) (T := TX0) (N := 13) hx hb hts inX0_lastKind_X0 hown hK hP 0 rfl rfl 1 (by decide) (hts (.fieldLink RX0 15 "BlockCache$Cache" "length" "[I") (by decide +kernel)) (fun _ h9 => h9) rfl dX0_lastKind_1 ?_
  refine lv_iload_n hx hb dX0_lastKind_4 rfl (lv_at hl 1 rfl) ?_
  obtain ⟨h_1, hf⟩ := pIn_out hf
  refine va_iald hx hb hK hP 2 0 rfl rfl h_1 dX0_lastKind_5 ?_
  refine lv_if_ne (tgt := 13) hx hb dX0_lastKind_6 (by decide) (fun c_2 => ?_) (fun c_2 => ?_)
  · replace hf := pI_f c_2 hf
    refine lv_aload_n hx hb dX0_lastKind_13 rfl (lv_at hl 0 rfl) ?_
    refine lv_iload_n hx hb dX0_lastKind_14 rfl (lv_at hl 1 rfl) ?_
    refine lv_aload_n hx hb dX0_lastKind_15 rfl (lv_at hl 0 rfl) ?_
    refine va_get (D := D) (ci := 0) (v := .ref a2) (C := RX0) (T := TX0) (N := 13) hx hb hts inX0_lastKind_X0 hown hK hP 0 rfl rfl 1 (by decide) (hts (.fieldLink RX0 15 "BlockCache$Cache" "length" "[I") (by decide +kernel)) (fun _ h9 => h9) rfl dX0_lastKind_16 ?_
    refine lv_iload_n hx hb dX0_lastKind_19 rfl (lv_at hl 1 rfl) ?_
    obtain ⟨h_3, hf⟩ := pIn_out hf
    refine va_iald hx hb hK hP 2 0 rfl rfl h_3 dX0_lastKind_20 ?_
    refine lv_iconst (v := 1) hx hb dX0_lastKind_21 (by decide) ?_
    refine lv_isub hx hb dX0_lastKind_22 ?_
    obtain ⟨z_4, hz_4, hf⟩ := pB_out hf
    refine gI (w' := (wC a0 a1 a2 a3 a4 a5 a6 a7 cI u)) (va_runV (As := [.int x1, .int (((gC_length u) x1.toNatClampNeg) - 1)]) (rest := []) ⟨hx, hb, hml, hown, hts⟩ (ctX0_wordAt l D cI a0 a1 a2 a3 a4 a5 a6 a7 u x1 (((gC_length u) x1.toNatClampNeg) - 1) z_4 hz_4 H.size) (cwV 2 hts gX0_lastKind_X0_wordAt rfl rfl rfl (by decide +kernel) ⟨Nat.le_of_ble_eq_true rfl, Nat.le_of_ble_eq_true rfl⟩) (gPreV (ci := 0) (C := RX0) (T := TX0) (N := 13) hP hK hD [0, 1, 2, 3, 4, 5, 6, 7] (by decide) rfl 0 rfl rfl) rfl rfl hl.1 rfl (lv_room (Nat.le_of_ble_eq_true rfl)) dX0_lastKind_23 ⟨Nat.le_of_ble_eq_true rfl, Nat.le_of_ble_eq_true rfl⟩) hP hD hS hA [0, 1, 2, 3, 4, 5, 6, 7] [] [0, 1, 2, 3, 4, 5, 6, 7] rfl rfl (by decide) (by decide) rfl (by decide) (fun H locs hP hD hS => ?_)
    obtain ⟨z_5, hz_5, hf⟩ := pLet_out hf
    refine gI0 (va_runS (As := [.int z_4]) (rest := []) ⟨hx, hb, hml, hown, hts⟩ (ctX1_kind l D cI z_4 z_5 hz_5.symm H.size) (va_cwS 1 hts gX0_lastKind_X1_kind rfl rfl rfl (by decide +kernel) ⟨Nat.le_of_ble_eq_true rfl, Nat.le_of_ble_eq_true rfl⟩) (gPreS hP hK hD [] (by decide) rfl) rfl rfl hl.1 rfl (lv_room (Nat.le_of_ble_eq_true rfl)) dX0_lastKind_26 ⟨Nat.le_of_ble_eq_true rfl, Nat.le_of_ble_eq_true rfl⟩) hP hD hS hA (fun H locs hP hS => ?_)
    have hz := Option.some.inj hf
    subst hz
    exact gRetI hx hb hr hlocks hK hP hD hS rfl rfl dX0_lastKind_29
  · replace hf := pI_t c_2 hf
    refine lv_iconst (v := 0) hx hb dX0_lastKind_9 (by decide) ?_
    refine lv_goto (tgt := 29) hx hb dX0_lastKind_10 (by decide) ?_
    have hz := Option.some.inj hf
    subst hz
    exact gRetI hx hb hr hlocks hK hP hD hS rfl rfl dX0_lastKind_29
theorem ctX0_lastKind (l : Launch) (D : va_G) (cI : ClassId) (a0 a1 a2 a3 a4 a5 a6 a7 : Nat) (u : TC) (x1 : Int32) (z : Int32) (hz : fX0_lastKind u x1 = some z) : CtI l yX0_lastKind wsX0_lastKind rmX0_lastKind D vwCl [(cI, .int)] [.ref a0, .int x1] (wC a0 a1 a2 a3 a4 a5 a6 a7 cI u) z (wC a0 a1 a2 a3 a4 a5 a6 a7 cI u) :=
  ctI_of (cc := cX0_lastKind) (maxL := 2) (ret := (some .int)) (by decide) rfl (Nat.le_of_ble_eq_true rfl) (fun p e s m below meth c A ls C hl hP hD hS => wkX0_lastKind C z _ _ s.heap [] ls hz hP hD hS hl)

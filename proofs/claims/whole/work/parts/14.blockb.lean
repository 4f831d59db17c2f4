abbrev rmX4_requestComes : Room := { frames := 2, cells := 0, slots := 0, locals := 42 }
theorem inX4_requestComes_X3 : ∀ w ∈ wsX30, w ∈ wsX4_requestComes := by decide +kernel
theorem inX4_requestComes_X4 : ∀ w ∈ wsX40, w ∈ wsX4_requestComes := by decide +kernel
set_option maxRecDepth 100000 in
set_option maxHeartbeats 4000000 in
theorem wkX4_requestComes_b37 {p : Program} {l : Launch} {e : Env} {s : State} {m : MethodId} {args : Array Value} {below : List Frame} {meth : Method} {c : Code} {D : va_G} {cI : ClassId} {A : Nat → Prop} {a0 a1 a2 a3 a4 a5 a6 a7 a8 a9 a10 a11 a12 a13 a14 a15 a16 : Nat} (C : cxt p s m args meth c cX4_requestComes (some .boolean) 4 RX4 wsX4_requestComes D vwCl [(cI, .int)] A) {K2 : TB → Int32 → Int32 → Option (Int32)} (hK2 : ∀ (z : Int32) (u : TB) (x1 : Int32) (x2 : Int32) (H : Heap) (locs : List Loc) (ls : Array Slot), K2 u x1 x2 = some z → va_P D vwCl (wB a0 a1 a2 a3 a4 a5 a6 a7 a8 a9 a10 a11 a12 a13 a14 a15 a16 cI u) H → va_D A (wB a0 a1 a2 a3 a4 a5 a6 a7 a8 a9 a10 a11 a12 a13 a14 a15 a16 cI u) → va_S A s.heap H locs → lv_has ls 4 [(0, .ref a0), (1, .int x1), (2, .int x2)] → W p l e rmX4_requestComes s m args below meth c H locs 0 0 (MQ below (oI D vwCl [(cI, .int)] A z (wB a0 a1 a2 a3 a4 a5 a6 a7 a8 a9 a10 a11 a12 a13 a14 a15 a16 cI u)) args s 0 0 A) (F0 m 2 ls [])) : ∀ (z : Int32) (u : TB) (x1 : Int32) (x2 : Int32) (H : Heap) (locs : List Loc) (ls : Array Slot), fX4_requestComes_b37 K2 u x1 x2 = some z → va_P D vwCl (wB a0 a1 a2 a3 a4 a5 a6 a7 a8 a9 a10 a11 a12 a13 a14 a15 a16 cI u) H → va_D A (wB a0 a1 a2 a3 a4 a5 a6 a7 a8 a9 a10 a11 a12 a13 a14 a15 a16 cI u) → va_S A s.heap H locs → lv_has ls 4 [(0, .ref a0), (1, .int x1), (2, .int x2)] → W p l e rmX4_requestComes s m args below meth c H locs 0 0 (MQ below (oI D vwCl [(cI, .int)] A z (wB a0 a1 a2 a3 a4 a5 a6 a7 a8 a9 a10 a11 a12 a13 a14 a15 a16 cI u)) args s 0 0 A) (F0 m 37 ls []) := by
  have C0 := C
  obtain ⟨hx, hb, hr, hml, hown, hts, hlocks, hK, hA⟩ := C
  intro z u x1 x2 H locs ls hf hP hD hS hl
  unfold fX4_requestComes_b37 at hf
  obtain ⟨x_1, ex_1, hf⟩ := pLet_out hf
  refine lv_iinc (v := x_1) (lv' := [(2, .int x_1), (0, .ref a0), (1, .int x1)]) hx hb dX4_requestComes_37 hl (k := 2) rfl (by rw [ex_1]; rfl) (by decide) rfl (fun ls hl => ?_)
  refine lv_goto (tgt := 2) hx hb dX4_requestComes_40 (by decide) ?_
  exact hK2 _ _ _ _ H locs ls hf hP hD hS (lv_sub hl [1, 2, 0] rfl)
set_option maxRecDepth 100000 in
set_option maxHeartbeats 4000000 in
theorem wkX4_requestComes_b2 {p : Program} {l : Launch} {e : Env} {s : State} {m : MethodId} {args : Array Value} {below : List Frame} {meth : Method} {c : Code} {D : va_G} {cI : ClassId} {A : Nat → Prop} {a0 a1 a2 a3 a4 a5 a6 a7 a8 a9 a10 a11 a12 a13 a14 a15 a16 : Nat} (C : cxt p s m args meth c cX4_requestComes (some .boolean) 4 RX4 wsX4_requestComes D vwCl [(cI, .int)] A) : ∀ (fu : Nat) (z : Int32) (u : TB) (x1 : Int32) (x2 : Int32) (H : Heap) (locs : List Loc) (ls : Array Slot), fX4_requestComes_b2 fu u x1 x2 = some z → va_P D vwCl (wB a0 a1 a2 a3 a4 a5 a6 a7 a8 a9 a10 a11 a12 a13 a14 a15 a16 cI u) H → va_D A (wB a0 a1 a2 a3 a4 a5 a6 a7 a8 a9 a10 a11 a12 a13 a14 a15 a16 cI u) → va_S A s.heap H locs → lv_has ls 4 [(0, .ref a0), (1, .int x1), (2, .int x2)] → W p l e rmX4_requestComes s m args below meth c H locs 0 0 (MQ below (oI D vwCl [(cI, .int)] A z (wB a0 a1 a2 a3 a4 a5 a6 a7 a8 a9 a10 a11 a12 a13 a14 a15 a16 cI u)) args s 0 0 A) (F0 m 2 ls []) := by
  have C0 := C
  obtain ⟨hx, hb, hr, hml, hown, hts, hlocks, hK, hA⟩ := C
  intro fu
  induction fu with
  | zero =>
    intro z u x1 x2 H locs ls hf hP hD hS hl
    cases hf
  | succ nn ih =>
    intro z u x1 x2 H locs ls hf hP hD hS hl
    simp only [fX4_requestComes_b2] at hf
    refine lv_iload_n hx hb dX4_requestComes_2 rfl (lv_at hl 2 rfl) ?_
    refine lv_aload_n hx hb dX4_requestComes_3 rfl (lv_at hl 0 rfl) ?_
    refine va_get (D := D) (ci := 3) (v := .ref a15) (C := RX4) (T := TX4) (N := 11) hx hb hts inX4_requestComes_X4 hown hK hP 0 rfl rfl 2 (by decide) (hts (.fieldLink RX4 28 "BlockCache" "requests" "LBlockCache$Queue;") (by decide +kernel)) (fun _ h9 => h9) rfl dX4_requestComes_4 ?_
    refine va_get (D := D) (ci := 2) (v := .int (gQ_many (gB_requests u))) (C := RX3) (T := TX3) (N := 3) hx hb hts inX4_requestComes_X3 hown hK hP 15 rfl rfl 2 (by decide) (hts (.fieldLink RX4 76 "BlockCache$Queue" "many" "I") (by decide +kernel)) (fun _ h9 => h9) rfl dX4_requestComes_7 ?_
    refine lv_icmp_ge (tgt := 43) hx hb dX4_requestComes_10 (by decide) (fun c_1 => ?_) (fun c_1 => ?_)
    · replace hf := pI_t c_1 hf
      refine lv_iconst (v := 0) hx hb dX4_requestComes_43 (by decide) ?_
      have hz := Option.some.inj hf
      subst hz
      exact gRetZ hx hb hr hlocks hK hP hD hS (by decide) rfl rfl dX4_requestComes_44
    · replace hf := pI_f c_1 hf
      refine lv_aload_n hx hb dX4_requestComes_13 rfl (lv_at hl 0 rfl) ?_
      refine va_get (D := D) (ci := 3) (v := .ref a15) (C := RX4) (T := TX4) (N := 11) hx hb hts inX4_requestComes_X4 hown hK hP 0 rfl rfl 2 (by decide) (hts (.fieldLink RX4 28 "BlockCache" "requests" "LBlockCache$Queue;") (by decide +kernel)) (fun _ h9 => h9) rfl dX4_requestComes_14 ?_
      refine lv_iload_n hx hb dX4_requestComes_17 rfl (lv_at hl 2 rfl) ?_
      obtain ⟨z_2, hz_2, hf⟩ := pB_out hf
      refine gI (w' := (wB a0 a1 a2 a3 a4 a5 a6 a7 a8 a9 a10 a11 a12 a13 a14 a15 a16 cI u)) (va_runV (As := [.int x2]) (rest := []) ⟨hx, hb, hml, hown, hts⟩ (ctX3_at l D cI a15 a16 16 (gB_requests u) x2 z_2 hz_2 H.size) (cwV 1 hts gX4_requestComes_X3_at rfl rfl rfl (by decide +kernel) ⟨Nat.le_of_ble_eq_true rfl, Nat.le_of_ble_eq_true rfl⟩) (gPreV (ci := 2) (C := RX3) (T := TX3) (N := 3) hP hK hD [15, 16] (by decide) rfl 15 rfl rfl) rfl rfl hl.1 rfl (lv_room (Nat.le_of_ble_eq_true rfl)) dX4_requestComes_18 ⟨Nat.le_of_ble_eq_true rfl, Nat.le_of_ble_eq_true rfl⟩) hP hD hS hA [15, 16] [0, 1, 2, 3, 4, 5, 6, 7, 8, 9, 10, 11, 12, 13, 14] [0, 1, 2, 3, 4, 5, 6, 7, 8, 9, 10, 11, 12, 13, 14, 15, 16] rfl rfl (by decide) (by decide) rfl (by decide) (fun H locs hP hD hS => ?_)
      refine lv_istore_n (lv' := [(3, .int z_2), (0, .ref a0), (1, .int x1), (2, .int x2)]) hx hb dX4_requestComes_21 rfl hl (by decide) rfl (fun ls hl => ?_)
      refine lv_iload_n hx hb dX4_requestComes_22 rfl (lv_at hl 0 rfl) ?_
      refine lv_aload_n hx hb dX4_requestComes_23 rfl (lv_at hl 1 rfl) ?_
      refine va_get (D := D) (ci := 3) (v := .int (gB_executed u)) (C := RX4) (T := TX4) (N := 11) hx hb hts inX4_requestComes_X4 hown hK hP 0 rfl rfl 4 (by decide) (hts (.fieldLink RX4 79 "BlockCache" "executed" "I") (by decide +kernel)) (fun _ h9 => h9) rfl dX4_requestComes_24 ?_
      refine lv_icmp_le (tgt := 37) hx hb dX4_requestComes_27 (by decide) (fun c_3 => ?_) (fun c_3 => ?_)
      · replace hf := pI_t c_3 hf
        exact wkX4_requestComes_b37 C0 ih _ _ _ _ H locs ls hf hP hD hS (lv_sub hl [1, 2, 3] rfl)
      · replace hf := pI_f c_3 hf
        refine lv_iload_n hx hb dX4_requestComes_30 rfl (lv_at hl 0 rfl) ?_
        refine lv_iload_n hx hb dX4_requestComes_31 rfl (lv_at hl 2 rfl) ?_
        refine lv_icmp_gt (tgt := 37) hx hb dX4_requestComes_32 (by decide) (fun c_4 => ?_) (fun c_4 => ?_)
        · replace hf := pI_t c_4 hf
          exact wkX4_requestComes_b37 C0 ih _ _ _ _ H locs ls hf hP hD hS (lv_sub hl [1, 2, 3] rfl)
        · replace hf := pI_f c_4 hf
          refine lv_iconst (v := 1) hx hb dX4_requestComes_35 (by decide) ?_
          have hz := Option.some.inj hf
          subst hz
          exact gRetZ hx hb hr hlocks hK hP hD hS (by decide) rfl rfl dX4_requestComes_36
set_option maxRecDepth 100000 in
set_option maxHeartbeats 4000000 in
theorem wkX4_requestComes {p : Program} {l : Launch} {e : Env} {s : State} {m : MethodId} {args : Array Value} {below : List Frame} {meth : Method} {c : Code} {D : va_G} {cI : ClassId} {A : Nat → Prop} {a0 a1 a2 a3 a4 a5 a6 a7 a8 a9 a10 a11 a12 a13 a14 a15 a16 : Nat} (C : cxt p s m args meth c cX4_requestComes (some .boolean) 4 RX4 wsX4_requestComes D vwCl [(cI, .int)] A) : ∀ (z : Int32) (u : TB) (x1 : Int32) (H : Heap) (locs : List Loc) (ls : Array Slot), fX4_requestComes u x1 = some z → va_P D vwCl (wB a0 a1 a2 a3 a4 a5 a6 a7 a8 a9 a10 a11 a12 a13 a14 a15 a16 cI u) H → va_D A (wB a0 a1 a2 a3 a4 a5 a6 a7 a8 a9 a10 a11 a12 a13 a14 a15 a16 cI u) → va_S A s.heap H locs → lv_has ls 4 [(0, .ref a0), (1, .int x1)] → W p l e rmX4_requestComes s m args below meth c H locs 0 0 (MQ below (oI D vwCl [(cI, .int)] A z (wB a0 a1 a2 a3 a4 a5 a6 a7 a8 a9 a10 a11 a12 a13 a14 a15 a16 cI u)) args s 0 0 A) (F0 m 0 ls []) := by
  have C0 := C
  obtain ⟨hx, hb, hr, hml, hown, hts, hlocks, hK, hA⟩ := C
  intro z u x1 H locs ls hf hP hD hS hl
  unfold fX4_requestComes at hf
  refine lv_iconst (v := 0) hx hb dX4_requestComes_0 (by decide) ?_
  refine lv_istore_n (lv' := [(2, .int 0), (0, .ref a0), (1, .int x1)]) hx hb dX4_requestComes_1 rfl hl (by decide) rfl (fun ls hl => ?_)
  exact wkX4_requestComes_b2 C0 fuelX4_requestComes_2 _ _ _ _ H locs ls hf hP hD hS (lv_sub hl [1, 2, 0] rfl)
theorem ctX4_requestComes (l : Launch) (D : va_G) (cI : ClassId) (a0 a1 a2 a3 a4 a5 a6 a7 a8 a9 a10 a11 a12 a13 a14 a15 a16 : Nat) (u : TB) (x1 : Int32) (z : Int32) (hz : fX4_requestComes u x1 = some z) : CtI l yX4_requestComes wsX4_requestComes rmX4_requestComes D vwCl [(cI, .int)] [.ref a0, .int x1] (wB a0 a1 a2 a3 a4 a5 a6 a7 a8 a9 a10 a11 a12 a13 a14 a15 a16 cI u) z (wB a0 a1 a2 a3 a4 a5 a6 a7 a8 a9 a10 a11 a12 a13 a14 a15 a16 cI u) :=
  ctI_of (cc := cX4_requestComes) (maxL := 4) (ret := (some .boolean)) (by decide) rfl (Nat.le_of_ble_eq_true rfl) (fun p e s m below meth c A ls C hl hP hD hS => wkX4_requestComes C z _ _ s.heap [] ls hz hP hD hS hl)
abbrev rmX4_mayRunWhole : Room := { frames := 3, cells := 0, slots := 0, locals := 65 }
theorem inX4_mayRunWhole_X4 : ∀ w ∈ wsX40, w ∈ wsX4_mayRunWhole := by decide +kernel
set_option maxRecDepth 100000 in
set_option maxHeartbeats 4000000 in
theorem wkX4_mayRunWhole {p : Program} {l : Launch} {e : Env} {s : State} {m : MethodId} {args : Array Value} {below : List Frame} {meth : Method} {c : Code} {D : va_G} {cI : ClassId} {A : Nat → Prop} {a0 a1 a2 a3 a4 a5 a6 a7 a8 a9 a10 a11 a12 a13 a14 a15 a16 : Nat} (C : cxt p s m args meth c cX4_mayRunWhole (some .boolean) 3 RX4 wsX4_mayRunWhole D vwCl [(cI, .int)] A) : ∀ (z : Int32) (u : TB) (x1 : Int32) (x2 : Int32) (H : Heap) (locs : List Loc) (ls : Array Slot), fX4_mayRunWhole u x1 x2 = some z → va_P D vwCl (wB a0 a1 a2 a3 a4 a5 a6 a7 a8 a9 a10 a11 a12 a13 a14 a15 a16 cI u) H → va_D A (wB a0 a1 a2 a3 a4 a5 a6 a7 a8 a9 a10 a11 a12 a13 a14 a15 a16 cI u) → va_S A s.heap H locs → lv_has ls 3 [(0, .ref a0), (1, .int x1), (2, .int x2)] → W p l e rmX4_mayRunWhole s m args below meth c H locs 0 0 (MQ below (oI D vwCl [(cI, .int)] A z (wB a0 a1 a2 a3 a4 a5 a6 a7 a8 a9 a10 a11 a12 a13 a14 a15 a16 cI u)) args s 0 0 A) (F0 m 0 ls []) := by
  have C0 := C
  obtain ⟨hx, hb, hr, hml, hown, hts, hlocks, hK, hA⟩ := C
  intro z u x1 x2 H locs ls hf hP hD hS hl
  unfold fX4_mayRunWhole at hf
  refine lv_iload_n hx hb dX4_mayRunWhole_0 rfl (lv_at hl 1 rfl) ?_
  refine lv_iload_n hx hb dX4_mayRunWhole_1 rfl (lv_at hl 2 rfl) ?_
  refine lv_icmp_gt (tgt := 24) hx hb dX4_mayRunWhole_2 (by decide) (fun c_1 => ?_) (fun c_1 => ?_)
  · replace hf := pI_t c_1 hf
    refine lv_iconst (v := 0) hx hb dX4_mayRunWhole_24 (by decide) ?_
    have hz := Option.some.inj hf
    subst hz
    exact gRetZ hx hb hr hlocks hK hP hD hS (by decide) rfl rfl dX4_mayRunWhole_25
  · replace hf := pI_f c_1 hf
    refine lv_aload_n hx hb dX4_mayRunWhole_5 rfl (lv_at hl 0 rfl) ?_
    refine lv_aload_n hx hb dX4_mayRunWhole_6 rfl (lv_at hl 0 rfl) ?_
    refine va_get (D := D) (ci := 3) (v := .int (gB_executed u)) (C := RX4) (T := TX4) (N := 11) hx hb hts inX4_mayRunWhole_X4 hown hK hP 0 rfl rfl 4 (by decide) (hts (.fieldLink RX4 79 "BlockCache" "executed" "I") (by decide +kernel)) (fun _ h9 => h9) rfl dX4_mayRunWhole_7 ?_
    refine lv_iload_n hx hb dX4_mayRunWhole_10 rfl (lv_at hl 1 rfl) ?_
    refine lv_iadd hx hb dX4_mayRunWhole_11 ?_
    refine lv_iconst (v := 1) hx hb dX4_mayRunWhole_12 (by decide) ?_
    refine lv_isub hx hb dX4_mayRunWhole_13 ?_
    obtain ⟨z_2, hz_2, hf⟩ := pB_out hf
    refine gI (w' := (wB a0 a1 a2 a3 a4 a5 a6 a7 a8 a9 a10 a11 a12 a13 a14 a15 a16 cI u)) (va_runV (As := [.int (((gB_executed u) + x1) - 1)]) (rest := []) ⟨hx, hb, hml, hown, hts⟩ (ctX4_requestComes l D cI a0 a1 a2 a3 a4 a5 a6 a7 a8 a9 a10 a11 a12 a13 a14 a15 a16 u (((gB_executed u) + x1) - 1) z_2 hz_2 H.size) (cwV 1 hts gX4_mayRunWhole_X4_requestComes rfl rfl rfl (by decide +kernel) ⟨Nat.le_of_ble_eq_true rfl, Nat.le_of_ble_eq_true rfl⟩) (gPreV (ci := 3) (C := RX4) (T := TX4) (N := 11) hP hK hD [0, 1, 2, 3, 4, 5, 6, 7, 8, 9, 10, 11, 12, 13, 14, 15, 16] (by decide) rfl 0 rfl rfl) rfl rfl hl.1 rfl (lv_room (Nat.le_of_ble_eq_true rfl)) dX4_mayRunWhole_14 ⟨Nat.le_of_ble_eq_true rfl, Nat.le_of_ble_eq_true rfl⟩) hP hD hS hA [0, 1, 2, 3, 4, 5, 6, 7, 8, 9, 10, 11, 12, 13, 14, 15, 16] [] [0, 1, 2, 3, 4, 5, 6, 7, 8, 9, 10, 11, 12, 13, 14, 15, 16] rfl rfl (by decide) (by decide) rfl (by decide) (fun H locs hP hD hS => ?_)
    refine lv_if_ne (tgt := 24) hx hb dX4_mayRunWhole_17 (by decide) (fun c_3 => ?_) (fun c_3 => ?_)
    · replace hf := pI_f c_3 hf
      refine lv_iconst (v := 0) hx hb dX4_mayRunWhole_24 (by decide) ?_
      have hz := Option.some.inj hf
      subst hz
      exact gRetZ hx hb hr hlocks hK hP hD hS (by decide) rfl rfl dX4_mayRunWhole_25
    · replace hf := pI_t c_3 hf
      refine lv_iconst (v := 1) hx hb dX4_mayRunWhole_20 (by decide) ?_
      refine lv_goto (tgt := 25) hx hb dX4_mayRunWhole_21 (by decide) ?_
      have hz := Option.some.inj hf
      subst hz
      exact gRetZ hx hb hr hlocks hK hP hD hS (by decide) rfl rfl dX4_mayRunWhole_25
theorem ctX4_mayRunWhole (l : Launch) (D : va_G) (cI : ClassId) (a0 a1 a2 a3 a4 a5 a6 a7 a8 a9 a10 a11 a12 a13 a14 a15 a16 : Nat) (u : TB) (x1 : Int32) (x2 : Int32) (z : Int32) (hz : fX4_mayRunWhole u x1 x2 = some z) : CtI l yX4_mayRunWhole wsX4_mayRunWhole rmX4_mayRunWhole D vwCl [(cI, .int)] [.ref a0, .int x1, .int x2] (wB a0 a1 a2 a3 a4 a5 a6 a7 a8 a9 a10 a11 a12 a13 a14 a15 a16 cI u) z (wB a0 a1 a2 a3 a4 a5 a6 a7 a8 a9 a10 a11 a12 a13 a14 a15 a16 cI u) :=
  ctI_of (cc := cX4_mayRunWhole) (maxL := 3) (ret := (some .boolean)) (by decide) rfl (Nat.le_of_ble_eq_true rfl) (fun p e s m below meth c A ls C hl hP hD hS => wkX4_mayRunWhole C z _ _ _ s.heap [] ls hz hP hD hS hl)
abbrev rmX4_perform : Room := { frames := 4, cells := 0, slots := 0, locals := 89 }
theorem inX4_perform_X4 : ∀ w ∈ wsX40, w ∈ wsX4_perform := by decide +kernel
set_option maxRecDepth 100000 in
set_option maxHeartbeats 4000000 in
theorem wkX4_perform {p : Program} {l : Launch} {e : Env} {s : State} {m : MethodId} {args : Array Value} {below : List Frame} {meth : Method} {c : Code} {D : va_G} {cI : ClassId} {A : Nat → Prop} {a0 a1 a2 a3 a4 a5 a6 a7 a8 a9 a10 a11 a12 a13 a14 a15 a16 : Nat} (C : cxt p s m args meth c cX4_perform none 2 RX4 wsX4_perform D vwCl [(cI, .int)] A) : ∀ (z : TB) (u : TB) (x1 : Int32) (H : Heap) (locs : List Loc) (ls : Array Slot), fX4_perform u x1 = some z → va_P D vwCl (wB a0 a1 a2 a3 a4 a5 a6 a7 a8 a9 a10 a11 a12 a13 a14 a15 a16 cI u) H → va_D A (wB a0 a1 a2 a3 a4 a5 a6 a7 a8 a9 a10 a11 a12 a13 a14 a15 a16 cI u) → va_S A s.heap H locs → lv_has ls 2 [(0, .ref a0), (1, .int x1)] → W p l e rmX4_perform s m args below meth c H locs 0 0 (MQ below (oV D vwCl [(cI, .int)] A (wB a0 a1 a2 a3 a4 a5 a6 a7 a8 a9 a10 a11 a12 a13 a14 a15 a16 cI z)) args s 0 0 A) (F0 m 0 ls []) := by
  have C0 := C
  obtain ⟨hx, hb, hr, hml, hown, hts, hlocks, hK, hA⟩ := C
  intro z u x1 H locs ls hf hP hD hS hl
  unfold fX4_perform at hf
  refine lv_aload_n hx hb dX4_perform_0 rfl (lv_at hl 0 rfl) ?_
  refine va_get (D := D) (ci := 3) (v := .ref a1) (C := RX4) (T := TX4) (N := 11) hx hb hts inX4_perform_X4 hown hK hP 0 rfl rfl 0 (by decide) (hts (.fieldLink RX4 10 "BlockCache" "guest" "LBlockCache$Guest;") (by decide +kernel)) (fun _ h9 => h9) rfl dX4_perform_1 ?_
  refine lv_iload_n hx hb dX4_perform_4 rfl (lv_at hl 1 rfl) ?_
  obtain ⟨z_1, hz_1, hf⟩ := pB_out hf
  obtain ⟨u_2, eu_2, hf⟩ := pLet_out hf
  refine gV (w' := (wB a0 a1 a2 a3 a4 a5 a6 a7 a8 a9 a10 a11 a12 a13 a14 a15 a16 cI u_2)) (va_runV (As := [.int x1]) (rest := []) ⟨hx, hb, hml, hown, hts⟩ (ctX2_execute l D cI a1 a2 a3 a4 a5 a6 (gB_guest u) x1 z_1 hz_1 H.size) (cwV 1 hts gX4_perform_X2_execute rfl rfl rfl (by decide +kernel) ⟨Nat.le_of_ble_eq_true rfl, Nat.le_of_ble_eq_true rfl⟩) (gPreV (ci := 1) (C := RX2) (T := TX2) (N := 6) hP hK hD [1, 2, 3, 4, 5, 6] (by decide) rfl 1 rfl rfl) rfl rfl hl.1 rfl (lv_room (Nat.le_of_ble_eq_true rfl)) dX4_perform_5 ⟨Nat.le_of_ble_eq_true rfl, Nat.le_of_ble_eq_true rfl⟩) hP hD hS hA [1, 2, 3, 4, 5, 6] [0, 7, 8, 9, 10, 11, 12, 13, 14, 15, 16] [0, 11, 12, 13, 14, 15, 16, 1, 2, 3, 4, 5, 6, 7, 8, 9, 10] rfl rfl (by decide) (by decide) (by rw [eu_2]; rfl) (by decide) (fun H locs hP hD hS => ?_)
  refine lv_aload_n hx hb dX4_perform_8 rfl (lv_at hl 0 rfl) ?_
  refine lv_dup hx hb dX4_perform_9 rfl ?_
  refine va_get (D := D) (ci := 3) (v := .int (gB_executed u_2)) (C := RX4) (T := TX4) (N := 11) hx hb hts inX4_perform_X4 hown hK hP 0 rfl rfl 4 (by decide) (hts (.fieldLink RX4 79 "BlockCache" "executed" "I") (by decide +kernel)) (fun _ h9 => h9) rfl dX4_perform_10 ?_
  refine lv_iconst (v := 1) hx hb dX4_perform_13 (by decide) ?_
  refine lv_iadd hx hb dX4_perform_14 ?_
  refine va_put (D := D) (ci := 3) (v := .int ((gB_executed u_2) + 1)) (ty := .int) (C := RX4) (T := TX4) (N := 11) hx hb hts inX4_perform_X4 tyX4 tyX4_ok nmX4 hown hK hP hD hS 0 rfl rfl 4 (by decide) (hts (.fieldLink RX4 79 "BlockCache" "executed" "I") (by decide +kernel)) (fun _ h9 => h9) rfl (by decide +kernel) rfl rfl (Nat.le_of_ble_eq_true rfl) dX4_perform_15 (fun H locs hP hD hS => ?_)
  obtain ⟨u_3, eu_3, hf⟩ := pLet_out hf
  replace hP : va_P D vwCl (wB a0 a1 a2 a3 a4 a5 a6 a7 a8 a9 a10 a11 a12 a13 a14 a15 a16 cI u_3) H := by rw [eu_3]; exact hP
  replace hD : va_D A (wB a0 a1 a2 a3 a4 a5 a6 a7 a8 a9 a10 a11 a12 a13 a14 a15 a16 cI u_3) := by rw [eu_3]; exact hD
  refine lv_aload_n hx hb dX4_perform_18 rfl (lv_at hl 0 rfl) ?_
  obtain ⟨z_4, hz_4, hf⟩ := pB_out hf
  refine gV (w' := (wB a0 a1 a2 a3 a4 a5 a6 a7 a8 a9 a10 a11 a12 a13 a14 a15 a16 cI z_4)) (va_runV (As := []) (rest := []) ⟨hx, hb, hml, hown, hts⟩ (ctX4_dropWritten l D cI a0 a1 a2 a3 a4 a5 a6 a7 a8 a9 a10 a11 a12 a13 a14 a15 a16 u_3 z_4 hz_4 H.size) (cwV 0 hts gX4_perform_X4_dropWritten rfl rfl rfl (by decide +kernel) ⟨Nat.le_of_ble_eq_true rfl, Nat.le_of_ble_eq_true rfl⟩) (gPreV (ci := 3) (C := RX4) (T := TX4) (N := 11) hP hK hD [0, 1, 2, 3, 4, 5, 6, 7, 8, 9, 10, 11, 12, 13, 14, 15, 16] (by decide) rfl 0 rfl rfl) rfl rfl hl.1 rfl (lv_room (Nat.le_of_ble_eq_true rfl)) dX4_perform_19 ⟨Nat.le_of_ble_eq_true rfl, Nat.le_of_ble_eq_true rfl⟩) hP hD hS hA [0, 1, 2, 3, 4, 5, 6, 7, 8, 9, 10, 11, 12, 13, 14, 15, 16] [] [0, 1, 2, 3, 4, 5, 6, 7, 8, 9, 10, 11, 12, 13, 14, 15, 16] rfl rfl (by decide) (by decide) rfl (by decide) (fun H locs hP hD hS => ?_)
  refine lv_iload_n hx hb dX4_perform_22 rfl (lv_at hl 1 rfl) ?_
  obtain ⟨z_5, hz_5, hf⟩ := pLet_out hf
  refine gI0 (va_runS (As := [.int x1]) (rest := []) ⟨hx, hb, hml, hown, hts⟩ (ctX1_kind l D cI x1 z_5 hz_5.symm H.size) (va_cwS 1 hts gX4_perform_X1_kind rfl rfl rfl (by decide +kernel) ⟨Nat.le_of_ble_eq_true rfl, Nat.le_of_ble_eq_true rfl⟩) (gPreS hP hK hD [] (by decide) rfl) rfl rfl hl.1 rfl (lv_room (Nat.le_of_ble_eq_true rfl)) dX4_perform_23 ⟨Nat.le_of_ble_eq_true rfl, Nat.le_of_ble_eq_true rfl⟩) hP hD hS hA (fun H locs hP hS => ?_)
  refine lv_iconst (v := 1) hx hb dX4_perform_26 (by decide) ?_
  refine lv_icmp_ne (tgt := 35) hx hb dX4_perform_27 (by decide) (fun c_6 => ?_) (fun c_6 => ?_)
  · replace hf := pI_f c_6 hf
    have hz := Option.some.inj hf
    subst hz
    exact gRetV hx hb hr hlocks hK hP hD hS rfl dX4_perform_35
  · replace hf := pI_t c_6 hf
    refine lv_aload_n hx hb dX4_perform_30 rfl (lv_at hl 0 rfl) ?_
    refine lv_iconst (v := 1) hx hb dX4_perform_31 (by decide) ?_
    refine va_put (D := D) (ci := 3) (v := .int 1) (ty := .int) (C := RX4) (T := TX4) (N := 11) hx hb hts inX4_perform_X4 tyX4 tyX4_ok nmX4 hown hK hP hD hS 0 rfl rfl 9 (by decide) (hts (.fieldLink RX4 88 "BlockCache" "ending" "I") (by decide +kernel)) (fun _ h9 => h9) rfl (by decide +kernel) rfl rfl (Nat.le_of_ble_eq_true rfl) dX4_perform_32 (fun H locs hP hD hS => ?_)
    obtain ⟨u_7, eu_7, hf⟩ := pLet_out hf
    replace hP : va_P D vwCl (wB a0 a1 a2 a3 a4 a5 a6 a7 a8 a9 a10 a11 a12 a13 a14 a15 a16 cI u_7) H := by rw [eu_7]; exact hP
    replace hD : va_D A (wB a0 a1 a2 a3 a4 a5 a6 a7 a8 a9 a10 a11 a12 a13 a14 a15 a16 cI u_7) := by rw [eu_7]; exact hD
    have hz := Option.some.inj hf
    subst hz
    exact gRetV hx hb hr hlocks hK hP hD hS rfl dX4_perform_35
theorem ctX4_perform (l : Launch) (D : va_G) (cI : ClassId) (a0 a1 a2 a3 a4 a5 a6 a7 a8 a9 a10 a11 a12 a13 a14 a15 a16 : Nat) (u : TB) (x1 : Int32) (z : TB) (hz : fX4_perform u x1 = some z) : CtV l yX4_perform wsX4_perform rmX4_perform D vwCl [(cI, .int)] [.ref a0, .int x1] (wB a0 a1 a2 a3 a4 a5 a6 a7 a8 a9 a10 a11 a12 a13 a14 a15 a16 cI u) (wB a0 a1 a2 a3 a4 a5 a6 a7 a8 a9 a10 a11 a12 a13 a14 a15 a16 cI z) :=
  ctV_of (cc := cX4_perform) (maxL := 2) (ret := none) (by decide) rfl (Nat.le_of_ble_eq_true rfl) (fun p e s m below meth c A ls C hl hP hD hS => wkX4_perform C z _ _ s.heap [] ls hz hP hD hS hl)
abbrev rmX4_runBlock : Room := { frames := 5, cells := 0, slots := 0, locals := 110 }
theorem inX4_runBlock_X0 : ∀ w ∈ wsX00, w ∈ wsX4_runBlock := by decide +kernel
theorem inX4_runBlock_X2 : ∀ w ∈ wsX20, w ∈ wsX4_runBlock := by decide +kernel
theorem inX4_runBlock_X4 : ∀ w ∈ wsX40, w ∈ wsX4_runBlock := by decide +kernel
set_option maxRecDepth 100000 in
set_option maxHeartbeats 4000000 in
theorem wkX4_runBlock_b93 {p : Program} {l : Launch} {e : Env} {s : State} {m : MethodId} {args : Array Value} {below : List Frame} {meth : Method} {c : Code} {D : va_G} {cI : ClassId} {A : Nat → Prop} {a0 a1 a2 a3 a4 a5 a6 a7 a8 a9 a10 a11 a12 a13 a14 a15 a16 : Nat} (C : cxt p s m args meth c cX4_runBlock none 4 RX4 wsX4_runBlock D vwCl [(cI, .int)] A) : ∀ (z : TB) (u : TB) (y0 : Int32) (H : Heap) (locs : List Loc) (ls : Array Slot), fX4_runBlock_b93 u y0 = some z → va_P D vwCl (wB a0 a1 a2 a3 a4 a5 a6 a7 a8 a9 a10 a11 a12 a13 a14 a15 a16 cI u) H → va_D A (wB a0 a1 a2 a3 a4 a5 a6 a7 a8 a9 a10 a11 a12 a13 a14 a15 a16 cI u) → va_S A s.heap H locs → lv_has ls 4 [] → W p l e rmX4_runBlock s m args below meth c H locs 0 0 (MQ below (oV D vwCl [(cI, .int)] A (wB a0 a1 a2 a3 a4 a5 a6 a7 a8 a9 a10 a11 a12 a13 a14 a15 a16 cI z)) args s 0 0 A) (F0 m 93 ls [.int y0, .ref a0]) := by
  have C0 := C
  obtain ⟨hx, hb, hr, hml, hown, hts, hlocks, hK, hA⟩ := C
  intro z u y0 H locs ls hf hP hD hS hl
  unfold fX4_runBlock_b93 at hf
  refine va_put (D := D) (ci := 3) (v := .int y0) (ty := .int) (C := RX4) (T := TX4) (N := 11) hx hb hts inX4_runBlock_X4 tyX4 tyX4_ok nmX4 hown hK hP hD hS 0 rfl rfl 10 (by decide) (hts (.fieldLink RX4 36 "BlockCache" "exit" "I") (by decide +kernel)) (fun _ h9 => h9) rfl (by decide +kernel) rfl rfl (Nat.le_of_ble_eq_true rfl) dX4_runBlock_93 (fun H locs hP hD hS => ?_)
  obtain ⟨u_1, eu_1, hf⟩ := pLet_out hf
  replace hP : va_P D vwCl (wB a0 a1 a2 a3 a4 a5 a6 a7 a8 a9 a10 a11 a12 a13 a14 a15 a16 cI u_1) H := by rw [eu_1]; exact hP
  replace hD : va_D A (wB a0 a1 a2 a3 a4 a5 a6 a7 a8 a9 a10 a11 a12 a13 a14 a15 a16 cI u_1) := by rw [eu_1]; exact hD
  have hz := Option.some.inj hf
  subst hz
  exact gRetV hx hb hr hlocks hK hP hD hS rfl dX4_runBlock_96
set_option maxRecDepth 100000 in
set_option maxHeartbeats 4000000 in
theorem wkX4_runBlock_b59 {p : Program} {l : Launch} {e : Env} {s : State} {m : MethodId} {args : Array Value} {below : List Frame} {meth : Method} {c : Code} {D : va_G} {cI : ClassId} {A : Nat → Prop} {a0 a1 a2 a3 a4 a5 a6 a7 a8 a9 a10 a11 a12 a13 a14 a15 a16 : Nat} (C : cxt p s m args meth c cX4_runBlock none 4 RX4 wsX4_runBlock D vwCl [(cI, .int)] A) : ∀ (z : TB) (u : TB) (x1 : Int32) (H : Heap) (locs : List Loc) (ls : Array Slot), fX4_runBlock_b59 u x1 = some z → va_P D vwCl (wB a0 a1 a2 a3 a4 a5 a6 a7 a8 a9 a10 a11 a12 a13 a14 a15 a16 cI u) H → va_D A (wB a0 a1 a2 a3 a4 a5 a6 a7 a8 a9 a10 a11 a12 a13 a14 a15 a16 cI u) → va_S A s.heap H locs → lv_has ls 4 [(0, .ref a0), (1, .int x1)] → W p l e rmX4_runBlock s m args below meth c H locs 0 0 (MQ below (oV D vwCl [(cI, .int)] A (wB a0 a1 a2 a3 a4 a5 a6 a7 a8 a9 a10 a11 a12 a13 a14 a15 a16 cI z)) args s 0 0 A) (F0 m 59 ls []) := by
  have C0 := C
  obtain ⟨hx, hb, hr, hml, hown, hts, hlocks, hK, hA⟩ := C
  intro z u x1 H locs ls hf hP hD hS hl
  unfold fX4_runBlock_b59 at hf
  refine lv_aload_n hx hb dX4_runBlock_59 rfl (lv_at hl 0 rfl) ?_
  refine lv_aload_n hx hb dX4_runBlock_60 rfl (lv_at hl 0 rfl) ?_
  refine va_get (D := D) (ci := 3) (v := .ref a7) (C := RX4) (T := TX4) (N := 11) hx hb hts inX4_runBlock_X4 hown hK hP 0 rfl rfl 1 (by decide) (hts (.fieldLink RX4 19 "BlockCache" "cache" "LBlockCache$Cache;") (by decide +kernel)) (fun _ h9 => h9) rfl dX4_runBlock_61 ?_
  refine lv_iload_n hx hb dX4_runBlock_64 rfl (lv_at hl 1 rfl) ?_
  obtain ⟨z_1, hz_1, hf⟩ := pB_out hf
  refine gI (w' := (wB a0 a1 a2 a3 a4 a5 a6 a7 a8 a9 a10 a11 a12 a13 a14 a15 a16 cI u)) (va_runV (As := [.int x1]) (rest := [.ref a0]) ⟨hx, hb, hml, hown, hts⟩ (ctX0_has l D cI a7 a8 a9 a10 a11 a12 a13 a14 (gB_cache u) x1 z_1 hz_1 H.size) (cwV 1 hts gX4_runBlock_X0_has rfl rfl rfl (by decide +kernel) ⟨Nat.le_of_ble_eq_true rfl, Nat.le_of_ble_eq_true rfl⟩) (gPreV (ci := 0) (C := RX0) (T := TX0) (N := 13) hP hK hD [7, 8, 9, 10, 11, 12, 13, 14] (by decide) rfl 7 rfl rfl) rfl rfl hl.1 rfl (lv_room (Nat.le_of_ble_eq_true rfl)) dX4_runBlock_65 ⟨Nat.le_of_ble_eq_true rfl, Nat.le_of_ble_eq_true rfl⟩) hP hD hS hA [7, 8, 9, 10, 11, 12, 13, 14] [0, 1, 2, 3, 4, 5, 6, 15, 16] [0, 1, 2, 3, 4, 5, 6, 9, 10, 11, 12, 13, 14, 15, 16, 7, 8] rfl rfl (by decide) (by decide) rfl (by decide) (fun H locs hP hD hS => ?_)
  refine lv_if_eq (tgt := 92) hx hb dX4_runBlock_68 (by decide) (fun c_2 => ?_) (fun c_2 => ?_)
  · replace hf := pI_t c_2 hf
    refine lv_iconst (v := (-1)) hx hb dX4_runBlock_92 (by decide) ?_
    exact wkX4_runBlock_b93 C0 _ _ _ H locs ls hf hP hD hS (lv_sub hl [] rfl)
  · replace hf := pI_f c_2 hf
    refine lv_aload_n hx hb dX4_runBlock_71 rfl (lv_at hl 0 rfl) ?_
    refine va_get (D := D) (ci := 3) (v := .ref a7) (C := RX4) (T := TX4) (N := 11) hx hb hts inX4_runBlock_X4 hown hK hP 0 rfl rfl 1 (by decide) (hts (.fieldLink RX4 19 "BlockCache" "cache" "LBlockCache$Cache;") (by decide +kernel)) (fun _ h9 => h9) rfl dX4_runBlock_72 ?_
    refine lv_iload_n hx hb dX4_runBlock_75 rfl (lv_at hl 1 rfl) ?_
    refine lv_aload_n hx hb dX4_runBlock_76 rfl (lv_at hl 0 rfl) ?_
    refine va_get (D := D) (ci := 3) (v := .ref a1) (C := RX4) (T := TX4) (N := 11) hx hb hts inX4_runBlock_X4 hown hK hP 0 rfl rfl 0 (by decide) (hts (.fieldLink RX4 10 "BlockCache" "guest" "LBlockCache$Guest;") (by decide +kernel)) (fun _ h9 => h9) rfl dX4_runBlock_77 ?_
    refine va_get (D := D) (ci := 1) (v := .ref a2) (C := RX2) (T := TX2) (N := 6) hx hb hts inX4_runBlock_X2 hown hK hP 1 rfl rfl 0 (by decide) (hts (.fieldLink RX4 60 "BlockCache$Guest" "state" "[I") (by decide +kernel)) (fun _ h9 => h9) rfl dX4_runBlock_80 ?_
    refine lv_bipush (v := 9) hx hb dX4_runBlock_83 (by decide) ?_
    obtain ⟨h_3, hf⟩ := pIn_out hf
    refine va_iald hx hb hK hP 2 0 rfl rfl h_3 dX4_runBlock_85 ?_
    obtain ⟨z_4, hz_4, hf⟩ := pB_out hf
    refine gI (w' := (wB a0 a1 a2 a3 a4 a5 a6 a7 a8 a9 a10 a11 a12 a13 a14 a15 a16 cI u)) (va_runV (As := [.int x1, .int ((gG_state (gB_guest u)) ((9 : Int32)).toNatClampNeg)]) (rest := [.ref a0]) ⟨hx, hb, hml, hown, hts⟩ (ctX0_exitTo l D cI a7 a8 a9 a10 a11 a12 a13 a14 (gB_cache u) x1 ((gG_state (gB_guest u)) ((9 : Int32)).toNatClampNeg) z_4 hz_4 H.size) (cwV 2 hts gX4_runBlock_X0_exitTo rfl rfl rfl (by decide +kernel) ⟨Nat.le_of_ble_eq_true rfl, Nat.le_of_ble_eq_true rfl⟩) (gPreV (ci := 0) (C := RX0) (T := TX0) (N := 13) hP hK hD [7, 8, 9, 10, 11, 12, 13, 14] (by decide) rfl 7 rfl rfl) rfl rfl hl.1 rfl (lv_room (Nat.le_of_ble_eq_true rfl)) dX4_runBlock_86 ⟨Nat.le_of_ble_eq_true rfl, Nat.le_of_ble_eq_true rfl⟩) hP hD hS hA [7, 8, 9, 10, 11, 12, 13, 14] [0, 1, 2, 3, 4, 5, 6, 15, 16] [0, 1, 2, 3, 4, 5, 6, 9, 10, 11, 12, 13, 14, 15, 16, 7, 8] rfl rfl (by decide) (by decide) rfl (by decide) (fun H locs hP hD hS => ?_)
    refine lv_goto (tgt := 93) hx hb dX4_runBlock_89 (by decide) ?_
    exact wkX4_runBlock_b93 C0 _ _ _ H locs ls hf hP hD hS (lv_sub hl [] rfl)
set_option maxRecDepth 100000 in
set_option maxHeartbeats 4000000 in
theorem wkX4_runBlock_b24 {p : Program} {l : Launch} {e : Env} {s : State} {m : MethodId} {args : Array Value} {below : List Frame} {meth : Method} {c : Code} {D : va_G} {cI : ClassId} {A : Nat → Prop} {a0 a1 a2 a3 a4 a5 a6 a7 a8 a9 a10 a11 a12 a13 a14 a15 a16 : Nat} (C : cxt p s m args meth c cX4_runBlock none 4 RX4 wsX4_runBlock D vwCl [(cI, .int)] A) : ∀ (fu : Nat) (z : TB) (u : TB) (x1 : Int32) (x2 : Int32) (x3 : Int32) (H : Heap) (locs : List Loc) (ls : Array Slot), fX4_runBlock_b24 fu u x1 x2 x3 = some z → va_P D vwCl (wB a0 a1 a2 a3 a4 a5 a6 a7 a8 a9 a10 a11 a12 a13 a14 a15 a16 cI u) H → va_D A (wB a0 a1 a2 a3 a4 a5 a6 a7 a8 a9 a10 a11 a12 a13 a14 a15 a16 cI u) → va_S A s.heap H locs → lv_has ls 4 [(0, .ref a0), (1, .int x1), (2, .int x2), (3, .int x3)] → W p l e rmX4_runBlock s m args below meth c H locs 0 0 (MQ below (oV D vwCl [(cI, .int)] A (wB a0 a1 a2 a3 a4 a5 a6 a7 a8 a9 a10 a11 a12 a13 a14 a15 a16 cI z)) args s 0 0 A) (F0 m 24 ls []) := by
  have C0 := C
  obtain ⟨hx, hb, hr, hml, hown, hts, hlocks, hK, hA⟩ := C
  intro fu
  induction fu with
  | zero =>
    intro z u x1 x2 x3 H locs ls hf hP hD hS hl
    cases hf
  | succ nn ih =>
    intro z u x1 x2 x3 H locs ls hf hP hD hS hl
    simp only [fX4_runBlock_b24] at hf
    refine lv_iload_n hx hb dX4_runBlock_24 rfl (lv_at hl 3 rfl) ?_
    refine lv_iload_n hx hb dX4_runBlock_25 rfl (lv_at hl 2 rfl) ?_
    refine lv_icmp_ge (tgt := 59) hx hb dX4_runBlock_26 (by decide) (fun c_1 => ?_) (fun c_1 => ?_)
    · replace hf := pI_t c_1 hf
      exact wkX4_runBlock_b59 C0 _ _ _ H locs ls hf hP hD hS (lv_sub hl [0, 1] rfl)
    · replace hf := pI_f c_1 hf
      refine lv_aload_n hx hb dX4_runBlock_29 rfl (lv_at hl 0 rfl) ?_
      refine va_get (D := D) (ci := 3) (v := .ref a7) (C := RX4) (T := TX4) (N := 11) hx hb hts inX4_runBlock_X4 hown hK hP 0 rfl rfl 1 (by decide) (hts (.fieldLink RX4 19 "BlockCache" "cache" "LBlockCache$Cache;") (by decide +kernel)) (fun _ h9 => h9) rfl dX4_runBlock_30 ?_
      refine lv_iload_n hx hb dX4_runBlock_33 rfl (lv_at hl 1 rfl) ?_
      obtain ⟨z_2, hz_2, hf⟩ := pB_out hf
      refine gI (w' := (wB a0 a1 a2 a3 a4 a5 a6 a7 a8 a9 a10 a11 a12 a13 a14 a15 a16 cI u)) (va_runV (As := [.int x1]) (rest := []) ⟨hx, hb, hml, hown, hts⟩ (ctX0_has l D cI a7 a8 a9 a10 a11 a12 a13 a14 (gB_cache u) x1 z_2 hz_2 H.size) (cwV 1 hts gX4_runBlock_X0_has rfl rfl rfl (by decide +kernel) ⟨Nat.le_of_ble_eq_true rfl, Nat.le_of_ble_eq_true rfl⟩) (gPreV (ci := 0) (C := RX0) (T := TX0) (N := 13) hP hK hD [7, 8, 9, 10, 11, 12, 13, 14] (by decide) rfl 7 rfl rfl) rfl rfl hl.1 rfl (lv_room (Nat.le_of_ble_eq_true rfl)) dX4_runBlock_34 ⟨Nat.le_of_ble_eq_true rfl, Nat.le_of_ble_eq_true rfl⟩) hP hD hS hA [7, 8, 9, 10, 11, 12, 13, 14] [0, 1, 2, 3, 4, 5, 6, 15, 16] [0, 1, 2, 3, 4, 5, 6, 9, 10, 11, 12, 13, 14, 15, 16, 7, 8] rfl rfl (by decide) (by decide) rfl (by decide) (fun H locs hP hD hS => ?_)
      refine lv_if_eq (tgt := 59) hx hb dX4_runBlock_37 (by decide) (fun c_3 => ?_) (fun c_3 => ?_)
      · replace hf := pI_t c_3 hf
        exact wkX4_runBlock_b59 C0 _ _ _ H locs ls hf hP hD hS (lv_sub hl [0, 1] rfl)
      · replace hf := pI_f c_3 hf
        refine lv_aload_n hx hb dX4_runBlock_40 rfl (lv_at hl 0 rfl) ?_
        refine lv_aload_n hx hb dX4_runBlock_41 rfl (lv_at hl 0 rfl) ?_
        refine va_get (D := D) (ci := 3) (v := .ref a7) (C := RX4) (T := TX4) (N := 11) hx hb hts inX4_runBlock_X4 hown hK hP 0 rfl rfl 1 (by decide) (hts (.fieldLink RX4 19 "BlockCache" "cache" "LBlockCache$Cache;") (by decide +kernel)) (fun _ h9 => h9) rfl dX4_runBlock_42 ?_
        refine lv_iload_n hx hb dX4_runBlock_45 rfl (lv_at hl 1 rfl) ?_
        refine lv_iload_n hx hb dX4_runBlock_46 rfl (lv_at hl 3 rfl) ?_
        obtain ⟨z_4, hz_4, hf⟩ := pB_out hf
        refine gI (w' := (wB a0 a1 a2 a3 a4 a5 a6 a7 a8 a9 a10 a11 a12 a13 a14 a15 a16 cI u)) (va_runV (As := [.int x1, .int x3]) (rest := [.ref a0]) ⟨hx, hb, hml, hown, hts⟩ (ctX0_wordAt l D cI a7 a8 a9 a10 a11 a12 a13 a14 (gB_cache u) x1 x3 z_4 hz_4 H.size) (cwV 2 hts gX4_runBlock_X0_wordAt rfl rfl rfl (by decide +kernel) ⟨Nat.le_of_ble_eq_true rfl, Nat.le_of_ble_eq_true rfl⟩) (gPreV (ci := 0) (C := RX0) (T := TX0) (N := 13) hP hK hD [7, 8, 9, 10, 11, 12, 13, 14] (by decide) rfl 7 rfl rfl) rfl rfl hl.1 rfl (lv_room (Nat.le_of_ble_eq_true rfl)) dX4_runBlock_47 ⟨Nat.le_of_ble_eq_true rfl, Nat.le_of_ble_eq_true rfl⟩) hP hD hS hA [7, 8, 9, 10, 11, 12, 13, 14] [0, 1, 2, 3, 4, 5, 6, 15, 16] [0, 1, 2, 3, 4, 5, 6, 9, 10, 11, 12, 13, 14, 15, 16, 7, 8] rfl rfl (by decide) (by decide) rfl (by decide) (fun H locs hP hD hS => ?_)
        obtain ⟨z_5, hz_5, hf⟩ := pB_out hf
        refine gV (w' := (wB a0 a1 a2 a3 a4 a5 a6 a7 a8 a9 a10 a11 a12 a13 a14 a15 a16 cI z_5)) (va_runV (As := [.int z_4]) (rest := []) ⟨hx, hb, hml, hown, hts⟩ (ctX4_perform l D cI a0 a1 a2 a3 a4 a5 a6 a7 a8 a9 a10 a11 a12 a13 a14 a15 a16 u z_4 z_5 hz_5 H.size) (cwV 1 hts gX4_runBlock_X4_perform rfl rfl rfl (by decide +kernel) ⟨Nat.le_of_ble_eq_true rfl, Nat.le_of_ble_eq_true rfl⟩) (gPreV (ci := 3) (C := RX4) (T := TX4) (N := 11) hP hK hD [0, 1, 2, 3, 4, 5, 6, 7, 8, 9, 10, 11, 12, 13, 14, 15, 16] (by decide) rfl 0 rfl rfl) rfl rfl hl.1 rfl (lv_room (Nat.le_of_ble_eq_true rfl)) dX4_runBlock_50 ⟨Nat.le_of_ble_eq_true rfl, Nat.le_of_ble_eq_true rfl⟩) hP hD hS hA [0, 1, 2, 3, 4, 5, 6, 7, 8, 9, 10, 11, 12, 13, 14, 15, 16] [] [0, 1, 2, 3, 4, 5, 6, 7, 8, 9, 10, 11, 12, 13, 14, 15, 16] rfl rfl (by decide) (by decide) rfl (by decide) (fun H locs hP hD hS => ?_)
        obtain ⟨x_6, ex_6, hf⟩ := pLet_out hf
        refine lv_iinc (v := x_6) (lv' := [(3, .int x_6), (0, .ref a0), (1, .int x1), (2, .int x2)]) hx hb dX4_runBlock_53 hl (k := 3) rfl (by rw [ex_6]; rfl) (by decide) rfl (fun ls hl => ?_)
        refine lv_goto (tgt := 24) hx hb dX4_runBlock_56 (by decide) ?_
        exact ih _ _ _ _ _ H locs ls hf hP hD hS (lv_sub hl [1, 2, 3, 0] rfl)
set_option maxRecDepth 100000 in
set_option maxHeartbeats 4000000 in
theorem wkX4_runBlock {p : Program} {l : Launch} {e : Env} {s : State} {m : MethodId} {args : Array Value} {below : List Frame} {meth : Method} {c : Code} {D : va_G} {cI : ClassId} {A : Nat → Prop} {a0 a1 a2 a3 a4 a5 a6 a7 a8 a9 a10 a11 a12 a13 a14 a15 a16 : Nat} (C : cxt p s m args meth c cX4_runBlock none 4 RX4 wsX4_runBlock D vwCl [(cI, .int)] A) : ∀ (z : TB) (u : TB) (x1 : Int32) (H : Heap) (locs : List Loc) (ls : Array Slot), fX4_runBlock u x1 = some z → va_P D vwCl (wB a0 a1 a2 a3 a4 a5 a6 a7 a8 a9 a10 a11 a12 a13 a14 a15 a16 cI u) H → va_D A (wB a0 a1 a2 a3 a4 a5 a6 a7 a8 a9 a10 a11 a12 a13 a14 a15 a16 cI u) → va_S A s.heap H locs → lv_has ls 4 [(0, .ref a0), (1, .int x1)] → W p l e rmX4_runBlock s m args below meth c H locs 0 0 (MQ below (oV D vwCl [(cI, .int)] A (wB a0 a1 a2 a3 a4 a5 a6 a7 a8 a9 a10 a11 a12 a13 a14 a15 a16 cI z)) args s 0 0 A) (F0 m 0 ls []) := by
  have C0 := C
  obtain ⟨hx, hb, hr, hml, hown, hts, hlocks, hK, hA⟩ := C
  intro z u x1 H locs ls hf hP hD hS hl
  unfold fX4_runBlock at hf
  refine lv_aload_n hx hb dX4_runBlock_0 rfl (lv_at hl 0 rfl) ?_
  refine va_get (D := D) (ci := 3) (v := .ref a7) (C := RX4) (T := TX4) (N := 11) hx hb hts inX4_runBlock_X4 hown hK hP 0 rfl rfl 1 (by decide) (hts (.fieldLink RX4 19 "BlockCache" "cache" "LBlockCache$Cache;") (by decide +kernel)) (fun _ h9 => h9) rfl dX4_runBlock_1 ?_
  refine lv_aload_n hx hb dX4_runBlock_4 rfl (lv_at hl 0 rfl) ?_
  refine va_get (D := D) (ci := 3) (v := .int (gB_exit u)) (C := RX4) (T := TX4) (N := 11) hx hb hts inX4_runBlock_X4 hown hK hP 0 rfl rfl 10 (by decide) (hts (.fieldLink RX4 36 "BlockCache" "exit" "I") (by decide +kernel)) (fun _ h9 => h9) rfl dX4_runBlock_5 ?_
  refine lv_iload_n hx hb dX4_runBlock_8 rfl (lv_at hl 1 rfl) ?_
  obtain ⟨z_1, hz_1, hf⟩ := pB_out hf
  obtain ⟨u_2, eu_2, hf⟩ := pLet_out hf
  refine gV (w' := (wB a0 a1 a2 a3 a4 a5 a6 a7 a8 a9 a10 a11 a12 a13 a14 a15 a16 cI u_2)) (va_runV (As := [.int (gB_exit u), .int x1]) (rest := []) ⟨hx, hb, hml, hown, hts⟩ (ctX0_link l D cI a7 a8 a9 a10 a11 a12 a13 a14 (gB_cache u) (gB_exit u) x1 z_1 hz_1 H.size) (cwV 2 hts gX4_runBlock_X0_link rfl rfl rfl (by decide +kernel) ⟨Nat.le_of_ble_eq_true rfl, Nat.le_of_ble_eq_true rfl⟩) (gPreV (ci := 0) (C := RX0) (T := TX0) (N := 13) hP hK hD [7, 8, 9, 10, 11, 12, 13, 14] (by decide) rfl 7 rfl rfl) rfl rfl hl.1 rfl (lv_room (Nat.le_of_ble_eq_true rfl)) dX4_runBlock_9 ⟨Nat.le_of_ble_eq_true rfl, Nat.le_of_ble_eq_true rfl⟩) hP hD hS hA [7, 8, 9, 10, 11, 12, 13, 14] [0, 1, 2, 3, 4, 5, 6, 15, 16] [0, 1, 2, 3, 4, 5, 6, 9, 10, 11, 12, 13, 14, 15, 16, 7, 8] rfl rfl (by decide) (by decide) (by rw [eu_2]; rfl) (by decide) (fun H locs hP hD hS => ?_)
  refine lv_aload_n hx hb dX4_runBlock_12 rfl (lv_at hl 0 rfl) ?_
  refine va_get (D := D) (ci := 3) (v := .ref a7) (C := RX4) (T := TX4) (N := 11) hx hb hts inX4_runBlock_X4 hown hK hP 0 rfl rfl 1 (by decide) (hts (.fieldLink RX4 19 "BlockCache" "cache" "LBlockCache$Cache;") (by decide +kernel)) (fun _ h9 => h9) rfl dX4_runBlock_13 ?_
  refine va_get (D := D) (ci := 0) (v := .ref a9) (C := RX0) (T := TX0) (N := 13) hx hb hts inX4_runBlock_X0 hown hK hP 7 rfl rfl 1 (by decide) (hts (.fieldLink RX4 133 "BlockCache$Cache" "length" "[I") (by decide +kernel)) (fun _ h9 => h9) rfl dX4_runBlock_16 ?_
  refine lv_iload_n hx hb dX4_runBlock_19 rfl (lv_at hl 1 rfl) ?_
  obtain ⟨h_3, hf⟩ := pIn_out hf
  refine va_iald hx hb hK hP 9 0 rfl rfl h_3 dX4_runBlock_20 ?_
  obtain ⟨x_4, ex_4, hf⟩ := pLet_out hf
  refine gTop ex_4 ?_
  refine lv_istore_n (lv' := [(2, .int x_4), (0, .ref a0), (1, .int x1)]) hx hb dX4_runBlock_21 rfl hl (by decide) rfl (fun ls hl => ?_)
  refine lv_iconst (v := 0) hx hb dX4_runBlock_22 (by decide) ?_
  refine lv_istore_n (lv' := [(3, .int 0), (2, .int x_4), (0, .ref a0), (1, .int x1)]) hx hb dX4_runBlock_23 rfl hl (by decide) rfl (fun ls hl => ?_)
  exact wkX4_runBlock_b24 C0 fuelX4_runBlock_24 _ _ _ _ _ H locs ls hf hP hD hS (lv_sub hl [2, 3, 1, 0] rfl)
theorem ctX4_runBlock (l : Launch) (D : va_G) (cI : ClassId) (a0 a1 a2 a3 a4 a5 a6 a7 a8 a9 a10 a11 a12 a13 a14 a15 a16 : Nat) (u : TB) (x1 : Int32) (z : TB) (hz : fX4_runBlock u x1 = some z) : CtV l yX4_runBlock wsX4_runBlock rmX4_runBlock D vwCl [(cI, .int)] [.ref a0, .int x1] (wB a0 a1 a2 a3 a4 a5 a6 a7 a8 a9 a10 a11 a12 a13 a14 a15 a16 cI u) (wB a0 a1 a2 a3 a4 a5 a6 a7 a8 a9 a10 a11 a12 a13 a14 a15 a16 cI z) :=
  ctV_of (cc := cX4_runBlock) (maxL := 4) (ret := none) (by decide) rfl (Nat.le_of_ble_eq_true rfl) (fun p e s m below meth c A ls C hl hP hD hS => wkX4_runBlock C z _ _ s.heap [] ls hz hP hD hS hl)
abbrev rmX4_interpret : Room := { frames := 5, cells := 0, slots := 0, locals := 110 }
theorem inX4_interpret_X2 : ∀ w ∈ wsX20, w ∈ wsX4_interpret := by decide +kernel
theorem inX4_interpret_X4 : ∀ w ∈ wsX40, w ∈ wsX4_interpret := by decide +kernel
set_option maxRecDepth 100000 in
set_option maxHeartbeats 4000000 in
theorem wkX4_interpret {p : Program} {l : Launch} {e : Env} {s : State} {m : MethodId} {args : Array Value} {below : List Frame} {meth : Method} {c : Code} {D : va_G} {cI : ClassId} {A : Nat → Prop} {a0 a1 a2 a3 a4 a5 a6 a7 a8 a9 a10 a11 a12 a13 a14 a15 a16 : Nat} (C : cxt p s m args meth c cX4_interpret none 3 RX4 wsX4_interpret D vwCl [(cI, .int)] A) : ∀ (z : TB) (u : TB) (x1 : Int32) (H : Heap) (locs : List Loc) (ls : Array Slot), fX4_interpret u x1 = some z → va_P D vwCl (wB a0 a1 a2 a3 a4 a5 a6 a7 a8 a9 a10 a11 a12 a13 a14 a15 a16 cI u) H → va_D A (wB a0 a1 a2 a3 a4 a5 a6 a7 a8 a9 a10 a11 a12 a13 a14 a15 a16 cI u) → va_S A s.heap H locs → lv_has ls 3 [(0, .ref a0), (1, .int x1)] → W p l e rmX4_interpret s m args below meth c H locs 0 0 (MQ below (oV D vwCl [(cI, .int)] A (wB a0 a1 a2 a3 a4 a5 a6 a7 a8 a9 a10 a11 a12 a13 a14 a15 a16 cI z)) args s 0 0 A) (F0 m 0 ls []) := by
  have C0 := C
  obtain ⟨hx, hb, hr, hml, hown, hts, hlocks, hK, hA⟩ := C
  intro z u x1 H locs ls hf hP hD hS hl
  unfold fX4_interpret at hf
  refine lv_aload_n hx hb dX4_interpret_0 rfl (lv_at hl 0 rfl) ?_
  refine lv_iconst (v := (-1)) hx hb dX4_interpret_1 (by decide) ?_
  refine va_put (D := D) (ci := 3) (v := .int (-1)) (ty := .int) (C := RX4) (T := TX4) (N := 11) hx hb hts inX4_interpret_X4 tyX4 tyX4_ok nmX4 hown hK hP hD hS 0 rfl rfl 10 (by decide) (hts (.fieldLink RX4 36 "BlockCache" "exit" "I") (by decide +kernel)) (fun _ h9 => h9) rfl (by decide +kernel) rfl rfl (Nat.le_of_ble_eq_true rfl) dX4_interpret_2 (fun H locs hP hD hS => ?_)
  obtain ⟨u_1, eu_1, hf⟩ := pLet_out hf
  replace hP : va_P D vwCl (wB a0 a1 a2 a3 a4 a5 a6 a7 a8 a9 a10 a11 a12 a13 a14 a15 a16 cI u_1) H := by rw [eu_1]; exact hP
  replace hD : va_D A (wB a0 a1 a2 a3 a4 a5 a6 a7 a8 a9 a10 a11 a12 a13 a14 a15 a16 cI u_1) := by rw [eu_1]; exact hD
  refine lv_aload_n hx hb dX4_interpret_5 rfl (lv_at hl 0 rfl) ?_
  refine va_get (D := D) (ci := 3) (v := .ref a1) (C := RX4) (T := TX4) (N := 11) hx hb hts inX4_interpret_X4 hown hK hP 0 rfl rfl 0 (by decide) (hts (.fieldLink RX4 10 "BlockCache" "guest" "LBlockCache$Guest;") (by decide +kernel)) (fun _ h9 => h9) rfl dX4_interpret_6 ?_
  refine va_get (D := D) (ci := 1) (v := .ref a3) (C := RX2) (T := TX2) (N := 6) hx hb hts inX4_interpret_X2 hown hK hP 1 rfl rfl 1 (by decide) (hts (.fieldLink RX4 46 "BlockCache$Guest" "memory" "[I") (by decide +kernel)) (fun _ h9 => h9) rfl dX4_interpret_9 ?_
  refine lv_iload_n hx hb dX4_interpret_12 rfl (lv_at hl 1 rfl) ?_
  obtain ⟨z_2, hz_2, hf⟩ := pB_out hf
  refine gI (w' := (wB a0 a1 a2 a3 a4 a5 a6 a7 a8 a9 a10 a11 a12 a13 a14 a15 a16 cI u_1)) (va_runS (As := [.ref a3, .int x1]) (rest := []) ⟨hx, hb, hml, hown, hts⟩ (ctX1_decode l D cI a3 (gG_memory (gB_guest u_1)) x1 z_2 hz_2 H.size) (va_cwS 2 hts gX4_interpret_X1_decode rfl rfl rfl (by decide +kernel) ⟨Nat.le_of_ble_eq_true rfl, Nat.le_of_ble_eq_true rfl⟩) (gPreS hP hK hD [3] (by decide) rfl) rfl rfl hl.1 rfl (lv_room (Nat.le_of_ble_eq_true rfl)) dX4_interpret_13 ⟨Nat.le_of_ble_eq_true rfl, Nat.le_of_ble_eq_true rfl⟩) hP hD hS hA [3] [0, 1, 2, 4, 5, 6, 7, 8, 9, 10, 11, 12, 13, 14, 15, 16] [0, 1, 2, 16, 3, 4, 5, 6, 7, 8, 9, 10, 11, 12, 13, 14, 15] rfl rfl (by decide) (by decide) rfl (by decide) (fun H locs hP hD hS => ?_)
  refine lv_istore_n (lv' := [(2, .int z_2), (0, .ref a0), (1, .int x1)]) hx hb dX4_interpret_16 rfl hl (by decide) rfl (fun ls hl => ?_)
  refine lv_iload_n hx hb dX4_interpret_17 rfl (lv_at hl 0 rfl) ?_
  obtain ⟨z_3, hz_3, hf⟩ := pLet_out hf
  refine gI0 (va_runS (As := [.int z_2]) (rest := []) ⟨hx, hb, hml, hown, hts⟩ (ctX1_kind l D cI z_2 z_3 hz_3.symm H.size) (va_cwS 1 hts gX4_interpret_X1_kind rfl rfl rfl (by decide +kernel) ⟨Nat.le_of_ble_eq_true rfl, Nat.le_of_ble_eq_true rfl⟩) (gPreS hP hK hD [] (by decide) rfl) rfl rfl hl.1 rfl (lv_room (Nat.le_of_ble_eq_true rfl)) dX4_interpret_18 ⟨Nat.le_of_ble_eq_true rfl, Nat.le_of_ble_eq_true rfl⟩) hP hD hS hA (fun H locs hP hS => ?_)
  refine lv_if_ne (tgt := 30) hx hb dX4_interpret_21 (by decide) (fun c_4 => ?_) (fun c_4 => ?_)
  · replace hf := pI_f c_4 hf
    refine lv_aload_n hx hb dX4_interpret_30 rfl (lv_at hl 1 rfl) ?_
    refine lv_dup hx hb dX4_interpret_31 rfl ?_
    refine va_get (D := D) (ci := 3) (v := .int (gB_interpreted u_1)) (C := RX4) (T := TX4) (N := 11) hx hb hts inX4_interpret_X4 hown hK hP 0 rfl rfl 7 (by decide) (hts (.fieldLink RX4 115 "BlockCache" "interpreted" "I") (by decide +kernel)) (fun _ h9 => h9) rfl dX4_interpret_32 ?_
    refine lv_iconst (v := 1) hx hb dX4_interpret_35 (by decide) ?_
    refine lv_iadd hx hb dX4_interpret_36 ?_
    refine va_put (D := D) (ci := 3) (v := .int ((gB_interpreted u_1) + 1)) (ty := .int) (C := RX4) (T := TX4) (N := 11) hx hb hts inX4_interpret_X4 tyX4 tyX4_ok nmX4 hown hK hP hD hS 0 rfl rfl 7 (by decide) (hts (.fieldLink RX4 115 "BlockCache" "interpreted" "I") (by decide +kernel)) (fun _ h9 => h9) rfl (by decide +kernel) rfl rfl (Nat.le_of_ble_eq_true rfl) dX4_interpret_37 (fun H locs hP hD hS => ?_)
    obtain ⟨u_5, eu_5, hf⟩ := pLet_out hf
    replace hP : va_P D vwCl (wB a0 a1 a2 a3 a4 a5 a6 a7 a8 a9 a10 a11 a12 a13 a14 a15 a16 cI u_5) H := by rw [eu_5]; exact hP
    replace hD : va_D A (wB a0 a1 a2 a3 a4 a5 a6 a7 a8 a9 a10 a11 a12 a13 a14 a15 a16 cI u_5) := by rw [eu_5]; exact hD
    refine lv_aload_n hx hb dX4_interpret_40 rfl (lv_at hl 1 rfl) ?_
    refine lv_iload_n hx hb dX4_interpret_41 rfl (lv_at hl 0 rfl) ?_
    obtain ⟨z_6, hz_6, hf⟩ := pB_out hf
    refine gV (w' := (wB a0 a1 a2 a3 a4 a5 a6 a7 a8 a9 a10 a11 a12 a13 a14 a15 a16 cI z_6)) (va_runV (As := [.int z_2]) (rest := []) ⟨hx, hb, hml, hown, hts⟩ (ctX4_perform l D cI a0 a1 a2 a3 a4 a5 a6 a7 a8 a9 a10 a11 a12 a13 a14 a15 a16 u_5 z_2 z_6 hz_6 H.size) (cwV 1 hts gX4_interpret_X4_perform rfl rfl rfl (by decide +kernel) ⟨Nat.le_of_ble_eq_true rfl, Nat.le_of_ble_eq_true rfl⟩) (gPreV (ci := 3) (C := RX4) (T := TX4) (N := 11) hP hK hD [0, 1, 2, 3, 4, 5, 6, 7, 8, 9, 10, 11, 12, 13, 14, 15, 16] (by decide) rfl 0 rfl rfl) rfl rfl hl.1 rfl (lv_room (Nat.le_of_ble_eq_true rfl)) dX4_interpret_42 ⟨Nat.le_of_ble_eq_true rfl, Nat.le_of_ble_eq_true rfl⟩) hP hD hS hA [0, 1, 2, 3, 4, 5, 6, 7, 8, 9, 10, 11, 12, 13, 14, 15, 16] [] [0, 1, 2, 3, 4, 5, 6, 7, 8, 9, 10, 11, 12, 13, 14, 15, 16] rfl rfl (by decide) (by decide) rfl (by decide) (fun H locs hP hD hS => ?_)
    have hz := Option.some.inj hf
    subst hz
    exact gRetV hx hb hr hlocks hK hP hD hS rfl dX4_interpret_45
  · replace hf := pI_t c_4 hf
    refine lv_aload_n hx hb dX4_interpret_24 rfl (lv_at hl 1 rfl) ?_
    refine lv_iconst (v := 2) hx hb dX4_interpret_25 (by decide) ?_
    refine va_put (D := D) (ci := 3) (v := .int 2) (ty := .int) (C := RX4) (T := TX4) (N := 11) hx hb hts inX4_interpret_X4 tyX4 tyX4_ok nmX4 hown hK hP hD hS 0 rfl rfl 9 (by decide) (hts (.fieldLink RX4 88 "BlockCache" "ending" "I") (by decide +kernel)) (fun _ h9 => h9) rfl (by decide +kernel) rfl rfl (Nat.le_of_ble_eq_true rfl) dX4_interpret_26 (fun H locs hP hD hS => ?_)
    obtain ⟨u_7, eu_7, hf⟩ := pLet_out hf
    replace hP : va_P D vwCl (wB a0 a1 a2 a3 a4 a5 a6 a7 a8 a9 a10 a11 a12 a13 a14 a15 a16 cI u_7) H := by rw [eu_7]; exact hP
    replace hD : va_D A (wB a0 a1 a2 a3 a4 a5 a6 a7 a8 a9 a10 a11 a12 a13 a14 a15 a16 cI u_7) := by rw [eu_7]; exact hD
    have hz := Option.some.inj hf
    subst hz
    exact gRetV hx hb hr hlocks hK hP hD hS rfl dX4_interpret_29
theorem ctX4_interpret (l : Launch) (D : va_G) (cI : ClassId) (a0 a1 a2 a3 a4 a5 a6 a7 a8 a9 a10 a11 a12 a13 a14 a15 a16 : Nat) (u : TB) (x1 : Int32) (z : TB) (hz : fX4_interpret u x1 = some z) : CtV l yX4_interpret wsX4_interpret rmX4_interpret D vwCl [(cI, .int)] [.ref a0, .int x1] (wB a0 a1 a2 a3 a4 a5 a6 a7 a8 a9 a10 a11 a12 a13 a14 a15 a16 cI u) (wB a0 a1 a2 a3 a4 a5 a6 a7 a8 a9 a10 a11 a12 a13 a14 a15 a16 cI z) :=
  ctV_of (cc := cX4_interpret) (maxL := 3) (ret := none) (by decide) rfl (Nat.le_of_ble_eq_true rfl) (fun p e s m below meth c A ls C hl hP hD hS => wkX4_interpret C z _ _ s.heap [] ls hz hP hD hS hl)
abbrev rmX4_takeTurn : Room := { frames := 6, cells := 0, slots := 0, locals := 133 }
theorem inX4_takeTurn_X0 : ∀ w ∈ wsX00, w ∈ wsX4_takeTurn := by decide +kernel
theorem inX4_takeTurn_X2 : ∀ w ∈ wsX20, w ∈ wsX4_takeTurn := by decide +kernel
theorem inX4_takeTurn_X4 : ∀ w ∈ wsX40, w ∈ wsX4_takeTurn := by decide +kernel
set_option maxRecDepth 100000 in
set_option maxHeartbeats 4000000 in
theorem wkX4_takeTurn_b48 {p : Program} {l : Launch} {e : Env} {s : State} {m : MethodId} {args : Array Value} {below : List Frame} {meth : Method} {c : Code} {D : va_G} {cI : ClassId} {A : Nat → Prop} {a0 a1 a2 a3 a4 a5 a6 a7 a8 a9 a10 a11 a12 a13 a14 a15 a16 : Nat} (C : cxt p s m args meth c cX4_takeTurn none 3 RX4 wsX4_takeTurn D vwCl [(cI, .int)] A) : ∀ (z : TB) (u : TB) (x2 : Int32) (H : Heap) (locs : List Loc) (ls : Array Slot), fX4_takeTurn_b48 u x2 = some z → va_P D vwCl (wB a0 a1 a2 a3 a4 a5 a6 a7 a8 a9 a10 a11 a12 a13 a14 a15 a16 cI u) H → va_D A (wB a0 a1 a2 a3 a4 a5 a6 a7 a8 a9 a10 a11 a12 a13 a14 a15 a16 cI u) → va_S A s.heap H locs → lv_has ls 3 [(0, .ref a0), (2, .int x2)] → W p l e rmX4_takeTurn s m args below meth c H locs 0 0 (MQ below (oV D vwCl [(cI, .int)] A (wB a0 a1 a2 a3 a4 a5 a6 a7 a8 a9 a10 a11 a12 a13 a14 a15 a16 cI z)) args s 0 0 A) (F0 m 48 ls []) := by
  have C0 := C
  obtain ⟨hx, hb, hr, hml, hown, hts, hlocks, hK, hA⟩ := C
  intro z u x2 H locs ls hf hP hD hS hl
  unfold fX4_takeTurn_b48 at hf
  refine lv_aload_n hx hb dX4_takeTurn_48 rfl (lv_at hl 0 rfl) ?_
  refine lv_iload_n hx hb dX4_takeTurn_49 rfl (lv_at hl 1 rfl) ?_
  obtain ⟨z_1, hz_1, hf⟩ := pB_out hf
  refine gV (w' := (wB a0 a1 a2 a3 a4 a5 a6 a7 a8 a9 a10 a11 a12 a13 a14 a15 a16 cI z_1)) (va_runV (As := [.int x2]) (rest := []) ⟨hx, hb, hml, hown, hts⟩ (ctX4_interpret l D cI a0 a1 a2 a3 a4 a5 a6 a7 a8 a9 a10 a11 a12 a13 a14 a15 a16 u x2 z_1 hz_1 H.size) (cwV 1 hts gX4_takeTurn_X4_interpret rfl rfl rfl (by decide +kernel) ⟨Nat.le_of_ble_eq_true rfl, Nat.le_of_ble_eq_true rfl⟩) (gPreV (ci := 3) (C := RX4) (T := TX4) (N := 11) hP hK hD [0, 1, 2, 3, 4, 5, 6, 7, 8, 9, 10, 11, 12, 13, 14, 15, 16] (by decide) rfl 0 rfl rfl) rfl rfl hl.1 rfl (lv_room (Nat.le_of_ble_eq_true rfl)) dX4_takeTurn_50 ⟨Nat.le_of_ble_eq_true rfl, Nat.le_of_ble_eq_true rfl⟩) hP hD hS hA [0, 1, 2, 3, 4, 5, 6, 7, 8, 9, 10, 11, 12, 13, 14, 15, 16] [] [0, 1, 2, 3, 4, 5, 6, 7, 8, 9, 10, 11, 12, 13, 14, 15, 16] rfl rfl (by decide) (by decide) rfl (by decide) (fun H locs hP hD hS => ?_)
  have hz := Option.some.inj hf
  subst hz
  exact gRetV hx hb hr hlocks hK hP hD hS rfl dX4_takeTurn_53
set_option maxRecDepth 100000 in
set_option maxHeartbeats 4000000 in
theorem wkX4_takeTurn {p : Program} {l : Launch} {e : Env} {s : State} {m : MethodId} {args : Array Value} {below : List Frame} {meth : Method} {c : Code} {D : va_G} {cI : ClassId} {A : Nat → Prop} {a0 a1 a2 a3 a4 a5 a6 a7 a8 a9 a10 a11 a12 a13 a14 a15 a16 : Nat} (C : cxt p s m args meth c cX4_takeTurn none 3 RX4 wsX4_takeTurn D vwCl [(cI, .int)] A) : ∀ (z : TB) (u : TB) (x1 : Int32) (H : Heap) (locs : List Loc) (ls : Array Slot), fX4_takeTurn u x1 = some z → va_P D vwCl (wB a0 a1 a2 a3 a4 a5 a6 a7 a8 a9 a10 a11 a12 a13 a14 a15 a16 cI u) H → va_D A (wB a0 a1 a2 a3 a4 a5 a6 a7 a8 a9 a10 a11 a12 a13 a14 a15 a16 cI u) → va_S A s.heap H locs → lv_has ls 3 [(0, .ref a0), (1, .int x1)] → W p l e rmX4_takeTurn s m args below meth c H locs 0 0 (MQ below (oV D vwCl [(cI, .int)] A (wB a0 a1 a2 a3 a4 a5 a6 a7 a8 a9 a10 a11 a12 a13 a14 a15 a16 cI z)) args s 0 0 A) (F0 m 0 ls []) := by
  have C0 := C
  obtain ⟨hx, hb, hr, hml, hown, hts, hlocks, hK, hA⟩ := C
  intro z u x1 H locs ls hf hP hD hS hl
  unfold fX4_takeTurn at hf
  refine lv_aload_n hx hb dX4_takeTurn_0 rfl (lv_at hl 0 rfl) ?_
  obtain ⟨z_1, hz_1, hf⟩ := pB_out hf
  refine gV (w' := (wB a0 a1 a2 a3 a4 a5 a6 a7 a8 a9 a10 a11 a12 a13 a14 a15 a16 cI z_1)) (va_runV (As := []) (rest := []) ⟨hx, hb, hml, hown, hts⟩ (ctX4_interruptIfDue l D cI a0 a1 a2 a3 a4 a5 a6 a7 a8 a9 a10 a11 a12 a13 a14 a15 a16 u z_1 hz_1 H.size) (cwV 0 hts gX4_takeTurn_X4_interruptIfDue rfl rfl rfl (by decide +kernel) ⟨Nat.le_of_ble_eq_true rfl, Nat.le_of_ble_eq_true rfl⟩) (gPreV (ci := 3) (C := RX4) (T := TX4) (N := 11) hP hK hD [0, 1, 2, 3, 4, 5, 6, 7, 8, 9, 10, 11, 12, 13, 14, 15, 16] (by decide) rfl 0 rfl rfl) rfl rfl hl.1 rfl (lv_room (Nat.le_of_ble_eq_true rfl)) dX4_takeTurn_1 ⟨Nat.le_of_ble_eq_true rfl, Nat.le_of_ble_eq_true rfl⟩) hP hD hS hA [0, 1, 2, 3, 4, 5, 6, 7, 8, 9, 10, 11, 12, 13, 14, 15, 16] [] [0, 1, 2, 3, 4, 5, 6, 7, 8, 9, 10, 11, 12, 13, 14, 15, 16] rfl rfl (by decide) (by decide) rfl (by decide) (fun H locs hP hD hS => ?_)
  refine lv_aload_n hx hb dX4_takeTurn_4 rfl (lv_at hl 0 rfl) ?_
  refine va_get (D := D) (ci := 3) (v := .ref a1) (C := RX4) (T := TX4) (N := 11) hx hb hts inX4_takeTurn_X4 hown hK hP 0 rfl rfl 0 (by decide) (hts (.fieldLink RX4 10 "BlockCache" "guest" "LBlockCache$Guest;") (by decide +kernel)) (fun _ h9 => h9) rfl dX4_takeTurn_5 ?_
  refine va_get (D := D) (ci := 1) (v := .ref a2) (C := RX2) (T := TX2) (N := 6) hx hb hts inX4_takeTurn_X2 hown hK hP 1 rfl rfl 0 (by decide) (hts (.fieldLink RX4 60 "BlockCache$Guest" "state" "[I") (by decide +kernel)) (fun _ h9 => h9) rfl dX4_takeTurn_8 ?_
  refine lv_bipush (v := 9) hx hb dX4_takeTurn_11 (by decide) ?_
  obtain ⟨h_2, hf⟩ := pIn_out hf
  refine va_iald hx hb hK hP 2 0 rfl rfl h_2 dX4_takeTurn_13 ?_
  obtain ⟨x_3, ex_3, hf⟩ := pLet_out hf
  refine gTop ex_3 ?_
  refine lv_istore_n (lv' := [(2, .int x_3), (0, .ref a0), (1, .int x1)]) hx hb dX4_takeTurn_14 rfl hl (by decide) rfl (fun ls hl => ?_)
  refine lv_aload_n hx hb dX4_takeTurn_15 rfl (lv_at hl 1 rfl) ?_
  refine lv_iload_n hx hb dX4_takeTurn_16 rfl (lv_at hl 0 rfl) ?_
  obtain ⟨z_4, hz_4, hf⟩ := pB_out hf
  refine gI (w' := (wB a0 a1 a2 a3 a4 a5 a6 a7 a8 a9 a10 a11 a12 a13 a14 a15 a16 cI z_4.2)) (va_runV (As := [.int x_3]) (rest := []) ⟨hx, hb, hml, hown, hts⟩ (ctX4_findBlock l D cI a0 a1 a2 a3 a4 a5 a6 a7 a8 a9 a10 a11 a12 a13 a14 a15 a16 z_1 x_3 z_4 hz_4 H.size) (cwV 1 hts gX4_takeTurn_X4_findBlock rfl rfl rfl (by decide +kernel) ⟨Nat.le_of_ble_eq_true rfl, Nat.le_of_ble_eq_true rfl⟩) (gPreV (ci := 3) (C := RX4) (T := TX4) (N := 11) hP hK hD [0, 1, 2, 3, 4, 5, 6, 7, 8, 9, 10, 11, 12, 13, 14, 15, 16] (by decide) rfl 0 rfl rfl) rfl rfl hl.1 rfl (lv_room (Nat.le_of_ble_eq_true rfl)) dX4_takeTurn_17 ⟨Nat.le_of_ble_eq_true rfl, Nat.le_of_ble_eq_true rfl⟩) hP hD hS hA [0, 1, 2, 3, 4, 5, 6, 7, 8, 9, 10, 11, 12, 13, 14, 15, 16] [] [0, 1, 2, 3, 4, 5, 6, 7, 8, 9, 10, 11, 12, 13, 14, 15, 16] rfl rfl (by decide) (by decide) rfl (by decide) (fun H locs hP hD hS => ?_)
  refine lv_if_eq (tgt := 48) hx hb dX4_takeTurn_20 (by decide) (fun c_5 => ?_) (fun c_5 => ?_)
  · replace hf := pI_t c_5 hf
    exact wkX4_takeTurn_b48 C0 _ _ _ H locs ls hf hP hD hS (lv_sub hl [1, 0] rfl)
  · replace hf := pI_f c_5 hf
    refine lv_aload_n hx hb dX4_takeTurn_23 rfl (lv_at hl 1 rfl) ?_
    refine lv_aload_n hx hb dX4_takeTurn_24 rfl (lv_at hl 1 rfl) ?_
    refine va_get (D := D) (ci := 3) (v := .ref a7) (C := RX4) (T := TX4) (N := 11) hx hb hts inX4_takeTurn_X4 hown hK hP 0 rfl rfl 1 (by decide) (hts (.fieldLink RX4 19 "BlockCache" "cache" "LBlockCache$Cache;") (by decide +kernel)) (fun _ h9 => h9) rfl dX4_takeTurn_25 ?_
    refine va_get (D := D) (ci := 0) (v := .ref a9) (C := RX0) (T := TX0) (N := 13) hx hb hts inX4_takeTurn_X0 hown hK hP 7 rfl rfl 1 (by decide) (hts (.fieldLink RX4 133 "BlockCache$Cache" "length" "[I") (by decide +kernel)) (fun _ h9 => h9) rfl dX4_takeTurn_28 ?_
    refine lv_iload_n hx hb dX4_takeTurn_31 rfl (lv_at hl 0 rfl) ?_
    obtain ⟨h_6, hf⟩ := pIn_out hf
    refine va_iald hx hb hK hP 9 0 rfl rfl h_6 dX4_takeTurn_32 ?_
    refine lv_iload_n hx hb dX4_takeTurn_33 rfl (lv_at hl 2 rfl) ?_
    obtain ⟨z_7, hz_7, hf⟩ := pB_out hf
    refine gI (w' := (wB a0 a1 a2 a3 a4 a5 a6 a7 a8 a9 a10 a11 a12 a13 a14 a15 a16 cI z_4.2)) (va_runV (As := [.int ((gC_length (gB_cache z_4.2)) x_3.toNatClampNeg), .int x1]) (rest := []) ⟨hx, hb, hml, hown, hts⟩ (ctX4_mayRunWhole l D cI a0 a1 a2 a3 a4 a5 a6 a7 a8 a9 a10 a11 a12 a13 a14 a15 a16 z_4.2 ((gC_length (gB_cache z_4.2)) x_3.toNatClampNeg) x1 z_7 hz_7 H.size) (cwV 2 hts gX4_takeTurn_X4_mayRunWhole rfl rfl rfl (by decide +kernel) ⟨Nat.le_of_ble_eq_true rfl, Nat.le_of_ble_eq_true rfl⟩) (gPreV (ci := 3) (C := RX4) (T := TX4) (N := 11) hP hK hD [0, 1, 2, 3, 4, 5, 6, 7, 8, 9, 10, 11, 12, 13, 14, 15, 16] (by decide) rfl 0 rfl rfl) rfl rfl hl.1 rfl (lv_room (Nat.le_of_ble_eq_true rfl)) dX4_takeTurn_34 ⟨Nat.le_of_ble_eq_true rfl, Nat.le_of_ble_eq_true rfl⟩) hP hD hS hA [0, 1, 2, 3, 4, 5, 6, 7, 8, 9, 10, 11, 12, 13, 14, 15, 16] [] [0, 1, 2, 3, 4, 5, 6, 7, 8, 9, 10, 11, 12, 13, 14, 15, 16] rfl rfl (by decide) (by decide) rfl (by decide) (fun H locs hP hD hS => ?_)
    refine lv_if_eq (tgt := 48) hx hb dX4_takeTurn_37 (by decide) (fun c_8 => ?_) (fun c_8 => ?_)
    · replace hf := pI_t c_8 hf
      exact wkX4_takeTurn_b48 C0 _ _ _ H locs ls hf hP hD hS (lv_sub hl [1, 0] rfl)
    · replace hf := pI_f c_8 hf
      refine lv_aload_n hx hb dX4_takeTurn_40 rfl (lv_at hl 1 rfl) ?_
      refine lv_iload_n hx hb dX4_takeTurn_41 rfl (lv_at hl 0 rfl) ?_
      obtain ⟨z_9, hz_9, hf⟩ := pB_out hf
      refine gV (w' := (wB a0 a1 a2 a3 a4 a5 a6 a7 a8 a9 a10 a11 a12 a13 a14 a15 a16 cI z_9)) (va_runV (As := [.int x_3]) (rest := []) ⟨hx, hb, hml, hown, hts⟩ (ctX4_runBlock l D cI a0 a1 a2 a3 a4 a5 a6 a7 a8 a9 a10 a11 a12 a13 a14 a15 a16 z_4.2 x_3 z_9 hz_9 H.size) (cwV 1 hts gX4_takeTurn_X4_runBlock rfl rfl rfl (by decide +kernel) ⟨Nat.le_of_ble_eq_true rfl, Nat.le_of_ble_eq_true rfl⟩) (gPreV (ci := 3) (C := RX4) (T := TX4) (N := 11) hP hK hD [0, 1, 2, 3, 4, 5, 6, 7, 8, 9, 10, 11, 12, 13, 14, 15, 16] (by decide) rfl 0 rfl rfl) rfl rfl hl.1 rfl (lv_room (Nat.le_of_ble_eq_true rfl)) dX4_takeTurn_42 ⟨Nat.le_of_ble_eq_true rfl, Nat.le_of_ble_eq_true rfl⟩) hP hD hS hA [0, 1, 2, 3, 4, 5, 6, 7, 8, 9, 10, 11, 12, 13, 14, 15, 16] [] [0, 1, 2, 3, 4, 5, 6, 7, 8, 9, 10, 11, 12, 13, 14, 15, 16] rfl rfl (by decide) (by decide) rfl (by decide) (fun H locs hP hD hS => ?_)
      refine lv_goto (tgt := 53) hx hb dX4_takeTurn_45 (by decide) ?_
      have hz := Option.some.inj hf
      subst hz
      exact gRetV hx hb hr hlocks hK hP hD hS rfl dX4_takeTurn_53
theorem ctX4_takeTurn (l : Launch) (D : va_G) (cI : ClassId) (a0 a1 a2 a3 a4 a5 a6 a7 a8 a9 a10 a11 a12 a13 a14 a15 a16 : Nat) (u : TB) (x1 : Int32) (z : TB) (hz : fX4_takeTurn u x1 = some z) : CtV l yX4_takeTurn wsX4_takeTurn rmX4_takeTurn D vwCl [(cI, .int)] [.ref a0, .int x1] (wB a0 a1 a2 a3 a4 a5 a6 a7 a8 a9 a10 a11 a12 a13 a14 a15 a16 cI u) (wB a0 a1 a2 a3 a4 a5 a6 a7 a8 a9 a10 a11 a12 a13 a14 a15 a16 cI z) :=
  ctV_of (cc := cX4_takeTurn) (maxL := 3) (ret := none) (by decide) rfl (Nat.le_of_ble_eq_true rfl) (fun p e s m below meth c A ls C hl hP hD hS => wkX4_takeTurn C z _ _ s.heap [] ls hz hP hD hS hl)
abbrev rmX4_run : Room := { frames := 7, cells := 1, slots := 6, locals := 155 }
theorem inX4_run_X4 : ∀ w ∈ wsX40, w ∈ wsX4_run := by decide +kernel
theorem xaX4_run_1 : ∀ w ∈ (vx_at0 RX4 45 "java/lang/IllegalArgumentException" ["java/lang/RuntimeException", "java/lang/Exception"]).filter goodWord, w ∈ wsX4_run := by decide +kernel
set_option maxRecDepth 100000 in
set_option maxHeartbeats 4000000 in
theorem wkX4_run_b12 {p : Program} {l : Launch} {e : Env} {s : State} {m : MethodId} {args : Array Value} {below : List Frame} {meth : Method} {c : Code} {D : va_G} {cI : ClassId} {A : Nat → Prop} {a0 a1 a2 a3 a4 a5 a6 a7 a8 a9 a10 a11 a12 a13 a14 a15 a16 : Nat} (C : cxt p s m args meth c cX4_run (some .int) 5 RX4 wsX4_run D vwCl [(cI, .int)] A) (CX : cxX l s c A) : ∀ (z : Int32 × Int32 × TB) (u : TB) (H : Heap) (locs : List Loc) (ls : Array Slot), fX4_run_b12 u = some z → va_P D vwCl (wB a0 a1 a2 a3 a4 a5 a6 a7 a8 a9 a10 a11 a12 a13 a14 a15 a16 cI u) H → va_D A (wB a0 a1 a2 a3 a4 a5 a6 a7 a8 a9 a10 a11 a12 a13 a14 a15 a16 cI u) → va_S A s.heap H locs → lv_has ls 5 [] → W p l e rmX4_run s m args below meth c H locs 0 0 (vx_MQ below (oIk D vwCl [(cI, .int)] A z.1 z.2.1 (wB a0 a1 a2 a3 a4 a5 a6 a7 a8 a9 a10 a11 a12 a13 a14 a15 a16 cI z.2.2)) (oX D vwCl [(cI, .int)] A z.1 (wB a0 a1 a2 a3 a4 a5 a6 a7 a8 a9 a10 a11 a12 a13 a14 a15 a16 cI z.2.2)) args s 1 6 A) (F0 m 12 ls []) := by
  have C0 := C
  obtain ⟨hx, hb, hr, hml, hown, hts, hlocks, hK, hA⟩ := C
  intro z u H locs ls hf hP hD hS hl
  unfold fX4_run_b12 at hf
  have hz := Option.some.inj hf
  subst hz
  exact gThrow (cls := "java/lang/IllegalArgumentException") (names := ["java/lang/RuntimeException", "java/lang/Exception"]) (ik := 43) (ic := 45) CX hx hb (hl.1.trans hml.symm) hlocks hown hts hK hP hD hS (by decide) (by decide) (by decide +kernel) (by decide +kernel) xaX4_run_1 xn45 xg45 dX4_run_12 dX4_run_15 dX4_run_16 dX4_run_19 (by decide) (by decide) (by decide) (by decide) rfl rfl
set_option maxRecDepth 100000 in
set_option maxHeartbeats 4000000 in
theorem wkX4_run_b79 {p : Program} {l : Launch} {e : Env} {s : State} {m : MethodId} {args : Array Value} {below : List Frame} {meth : Method} {c : Code} {D : va_G} {cI : ClassId} {A : Nat → Prop} {a0 a1 a2 a3 a4 a5 a6 a7 a8 a9 a10 a11 a12 a13 a14 a15 a16 : Nat} (C : cxt p s m args meth c cX4_run (some .int) 5 RX4 wsX4_run D vwCl [(cI, .int)] A) (CX : cxX l s c A) : ∀ (z : Int32 × Int32 × TB) (u : TB) (x2 : Int32) (H : Heap) (locs : List Loc) (ls : Array Slot), fX4_run_b79 u x2 = some z → va_P D vwCl (wB a0 a1 a2 a3 a4 a5 a6 a7 a8 a9 a10 a11 a12 a13 a14 a15 a16 cI u) H → va_D A (wB a0 a1 a2 a3 a4 a5 a6 a7 a8 a9 a10 a11 a12 a13 a14 a15 a16 cI u) → va_S A s.heap H locs → lv_has ls 5 [(0, .ref a0), (2, .int x2)] → W p l e rmX4_run s m args below meth c H locs 0 0 (vx_MQ below (oIk D vwCl [(cI, .int)] A z.1 z.2.1 (wB a0 a1 a2 a3 a4 a5 a6 a7 a8 a9 a10 a11 a12 a13 a14 a15 a16 cI z.2.2)) (oX D vwCl [(cI, .int)] A z.1 (wB a0 a1 a2 a3 a4 a5 a6 a7 a8 a9 a10 a11 a12 a13 a14 a15 a16 cI z.2.2)) args s 1 6 A) (F0 m 79 ls []) := by
  have C0 := C
  obtain ⟨hx, hb, hr, hml, hown, hts, hlocks, hK, hA⟩ := C
  intro z u x2 H locs ls hf hP hD hS hl
  unfold fX4_run_b79 at hf
  refine lv_aload_n hx hb dX4_run_79 rfl (lv_at hl 0 rfl) ?_
  refine va_get (D := D) (ci := 3) (v := .int (gB_executed u)) (C := RX4) (T := TX4) (N := 11) hx hb hts inX4_run_X4 hown hK hP 0 rfl rfl 4 (by decide) (hts (.fieldLink RX4 79 "BlockCache" "executed" "I") (by decide +kernel)) (fun _ h9 => h9) rfl dX4_run_80 ?_
  refine lv_iload_n hx hb dX4_run_83 rfl (lv_at hl 1 rfl) ?_
  refine lv_isub hx hb dX4_run_84 ?_
  have hz := Option.some.inj hf
  subst hz
  exact gRetIk hx hb hr hlocks hK hP hD hS rfl rfl rfl dX4_run_85 (by decide) (by decide)
set_option maxRecDepth 100000 in
set_option maxHeartbeats 4000000 in
theorem wkX4_run_b37 {p : Program} {l : Launch} {e : Env} {s : State} {m : MethodId} {args : Array Value} {below : List Frame} {meth : Method} {c : Code} {D : va_G} {cI : ClassId} {A : Nat → Prop} {a0 a1 a2 a3 a4 a5 a6 a7 a8 a9 a10 a11 a12 a13 a14 a15 a16 : Nat} (C : cxt p s m args meth c cX4_run (some .int) 5 RX4 wsX4_run D vwCl [(cI, .int)] A) (CX : cxX l s c A) : ∀ (fu : Nat) (z : Int32 × Int32 × TB) (u : TB) (x1 : Int32) (x2 : Int32) (x3 : Int32) (H : Heap) (locs : List Loc) (ls : Array Slot), fX4_run_b37 fu u x1 x2 x3 = some z → va_P D vwCl (wB a0 a1 a2 a3 a4 a5 a6 a7 a8 a9 a10 a11 a12 a13 a14 a15 a16 cI u) H → va_D A (wB a0 a1 a2 a3 a4 a5 a6 a7 a8 a9 a10 a11 a12 a13 a14 a15 a16 cI u) → va_S A s.heap H locs → lv_has ls 5 [(0, .ref a0), (1, .int x1), (2, .int x2), (3, .int x3)] → W p l e rmX4_run s m args below meth c H locs 0 0 (vx_MQ below (oIk D vwCl [(cI, .int)] A z.1 z.2.1 (wB a0 a1 a2 a3 a4 a5 a6 a7 a8 a9 a10 a11 a12 a13 a14 a15 a16 cI z.2.2)) (oX D vwCl [(cI, .int)] A z.1 (wB a0 a1 a2 a3 a4 a5 a6 a7 a8 a9 a10 a11 a12 a13 a14 a15 a16 cI z.2.2)) args s 1 6 A) (F0 m 37 ls []) := by
  have C0 := C
  obtain ⟨hx, hb, hr, hml, hown, hts, hlocks, hK, hA⟩ := C
  intro fu
  induction fu with
  | zero =>
    intro z u x1 x2 x3 H locs ls hf hP hD hS hl
    cases hf
  | succ nn ih =>
    intro z u x1 x2 x3 H locs ls hf hP hD hS hl
    simp only [fX4_run_b37] at hf
    refine lv_iload_n hx hb dX4_run_37 rfl (lv_at hl 3 rfl) ?_
    refine lv_iload_n hx hb dX4_run_38 rfl (lv_at hl 1 rfl) ?_
    refine lv_icmp_ge (tgt := 79) hx hb dX4_run_39 (by decide) (fun c_1 => ?_) (fun c_1 => ?_)
    · replace hf := pI_t c_1 hf
      exact wkX4_run_b79 C0 CX _ _ _ H locs ls hf hP hD hS (lv_sub hl [0, 2] rfl)
    · replace hf := pI_f c_1 hf
      refine lv_iload_n hx hb dX4_run_42 rfl (lv_at hl 1 rfl) ?_
      refine lv_aload_n hx hb dX4_run_43 rfl (lv_at hl 0 rfl) ?_
      refine va_get (D := D) (ci := 3) (v := .int (gB_executed u)) (C := RX4) (T := TX4) (N := 11) hx hb hts inX4_run_X4 hown hK hP 0 rfl rfl 4 (by decide) (hts (.fieldLink RX4 79 "BlockCache" "executed" "I") (by decide +kernel)) (fun _ h9 => h9) rfl dX4_run_44 ?_
      refine lv_iload_n hx hb dX4_run_47 rfl (lv_at hl 2 rfl) ?_
      refine lv_isub hx hb dX4_run_48 ?_
      refine lv_isub hx hb dX4_run_49 ?_
      obtain ⟨x_2, ex_2, hf⟩ := pLet_out hf
      refine gTop ex_2 ?_
      refine lv_istore (lv' := [(4, .int x_2), (0, .ref a0), (1, .int x1), (2, .int x2), (3, .int x3)]) hx hb dX4_run_50 hl (by decide) rfl (fun ls hl => ?_)
      refine lv_iload hx hb dX4_run_52 (lv_at hl 0 rfl) ?_
      refine lv_if_le (tgt := 79) hx hb dX4_run_54 (by decide) (fun c_3 => ?_) (fun c_3 => ?_)
      · replace hf := pI_t c_3 hf
        exact wkX4_run_b79 C0 CX _ _ _ H locs ls hf hP hD hS (lv_sub hl [1, 3] rfl)
      · replace hf := pI_f c_3 hf
        refine lv_aload_n hx hb dX4_run_57 rfl (lv_at hl 1 rfl) ?_
        refine va_get (D := D) (ci := 3) (v := .int (gB_ending u)) (C := RX4) (T := TX4) (N := 11) hx hb hts inX4_run_X4 hown hK hP 0 rfl rfl 9 (by decide) (hts (.fieldLink RX4 88 "BlockCache" "ending" "I") (by decide +kernel)) (fun _ h9 => h9) rfl dX4_run_58 ?_
        refine lv_if_eq (tgt := 67) hx hb dX4_run_61 (by decide) (fun c_4 => ?_) (fun c_4 => ?_)
        · replace hf := pI_t c_4 hf
          refine lv_aload_n hx hb dX4_run_67 rfl (lv_at hl 1 rfl) ?_
          refine lv_iload hx hb dX4_run_68 (lv_at hl 0 rfl) ?_
          obtain ⟨z_5, hz_5, hf⟩ := pB_out hf
          refine gV (w' := (wB a0 a1 a2 a3 a4 a5 a6 a7 a8 a9 a10 a11 a12 a13 a14 a15 a16 cI z_5)) (va_runV (As := [.int x_2]) (rest := []) ⟨hx, hb, hml, hown, hts⟩ (ctX4_takeTurn l D cI a0 a1 a2 a3 a4 a5 a6 a7 a8 a9 a10 a11 a12 a13 a14 a15 a16 u x_2 z_5 hz_5 H.size) (cwV 1 hts gX4_run_X4_takeTurn rfl rfl rfl (by decide +kernel) ⟨Nat.le_of_ble_eq_true rfl, Nat.le_of_ble_eq_true rfl⟩) (gPreV (ci := 3) (C := RX4) (T := TX4) (N := 11) hP hK hD [0, 1, 2, 3, 4, 5, 6, 7, 8, 9, 10, 11, 12, 13, 14, 15, 16] (by decide) rfl 0 rfl rfl) rfl rfl hl.1 rfl (lv_room (Nat.le_of_ble_eq_true rfl)) dX4_run_70 ⟨Nat.le_of_ble_eq_true rfl, Nat.le_of_ble_eq_true rfl⟩) hP hD hS hA [0, 1, 2, 3, 4, 5, 6, 7, 8, 9, 10, 11, 12, 13, 14, 15, 16] [] [0, 1, 2, 3, 4, 5, 6, 7, 8, 9, 10, 11, 12, 13, 14, 15, 16] rfl rfl (by decide) (by decide) rfl (by decide) (fun H locs hP hD hS => ?_)
          obtain ⟨x_6, ex_6, hf⟩ := pLet_out hf
          refine lv_iinc (v := x_6) (lv' := [(3, .int x_6), (4, .int x_2), (0, .ref a0), (1, .int x1), (2, .int x2)]) hx hb dX4_run_73 hl (k := 4) rfl (by rw [ex_6]; rfl) (by decide) rfl (fun ls hl => ?_)
          refine lv_goto (tgt := 37) hx hb dX4_run_76 (by decide) ?_
          exact ih _ _ _ _ _ H locs ls hf hP hD hS (lv_sub hl [2, 3, 4, 0] rfl)
        · replace hf := pI_f c_4 hf
          refine lv_goto (tgt := 79) hx hb dX4_run_64 (by decide) ?_
          exact wkX4_run_b79 C0 CX _ _ _ H locs ls hf hP hD hS (lv_sub hl [1, 3] rfl)
set_option maxRecDepth 100000 in
set_option maxHeartbeats 4000000 in
theorem wkX4_run {p : Program} {l : Launch} {e : Env} {s : State} {m : MethodId} {args : Array Value} {below : List Frame} {meth : Method} {c : Code} {D : va_G} {cI : ClassId} {A : Nat → Prop} {a0 a1 a2 a3 a4 a5 a6 a7 a8 a9 a10 a11 a12 a13 a14 a15 a16 : Nat} (C : cxt p s m args meth c cX4_run (some .int) 5 RX4 wsX4_run D vwCl [(cI, .int)] A) (CX : cxX l s c A) : ∀ (z : Int32 × Int32 × TB) (u : TB) (x1 : Int32) (H : Heap) (locs : List Loc) (ls : Array Slot), fX4_run u x1 = some z → va_P D vwCl (wB a0 a1 a2 a3 a4 a5 a6 a7 a8 a9 a10 a11 a12 a13 a14 a15 a16 cI u) H → va_D A (wB a0 a1 a2 a3 a4 a5 a6 a7 a8 a9 a10 a11 a12 a13 a14 a15 a16 cI u) → va_S A s.heap H locs → lv_has ls 5 [(0, .ref a0), (1, .int x1)] → W p l e rmX4_run s m args below meth c H locs 0 0 (vx_MQ below (oIk D vwCl [(cI, .int)] A z.1 z.2.1 (wB a0 a1 a2 a3 a4 a5 a6 a7 a8 a9 a10 a11 a12 a13 a14 a15 a16 cI z.2.2)) (oX D vwCl [(cI, .int)] A z.1 (wB a0 a1 a2 a3 a4 a5 a6 a7 a8 a9 a10 a11 a12 a13 a14 a15 a16 cI z.2.2)) args s 1 6 A) (F0 m 0 ls []) := by
  have C0 := C
  obtain ⟨hx, hb, hr, hml, hown, hts, hlocks, hK, hA⟩ := C
  intro z u x1 H locs ls hf hP hD hS hl
  unfold fX4_run at hf
  refine lv_iload_n hx hb dX4_run_0 rfl (lv_at hl 1 rfl) ?_
  refine lv_iconst (v := 1) hx hb dX4_run_1 (by decide) ?_
  refine lv_icmp_lt (tgt := 12) hx hb dX4_run_2 (by decide) (fun c_1 => ?_) (fun c_1 => ?_)
  · replace hf := pI_t c_1 hf
    exact wkX4_run_b12 C0 CX _ _ H locs ls hf hP hD hS (lv_sub hl [] rfl)
  · replace hf := pI_f c_1 hf
    refine lv_iload_n hx hb dX4_run_5 rfl (lv_at hl 1 rfl) ?_
    refine lv_sipush (v := 5000) hx hb dX4_run_6 (by decide) ?_
    refine lv_icmp_le (tgt := 20) hx hb dX4_run_9 (by decide) (fun c_2 => ?_) (fun c_2 => ?_)
    · replace hf := pI_t c_2 hf
      refine lv_aload_n hx hb dX4_run_20 rfl (lv_at hl 0 rfl) ?_
      refine va_get (D := D) (ci := 3) (v := .int (gB_executed u)) (C := RX4) (T := TX4) (N := 11) hx hb hts inX4_run_X4 hown hK hP 0 rfl rfl 4 (by decide) (hts (.fieldLink RX4 79 "BlockCache" "executed" "I") (by decide +kernel)) (fun _ h9 => h9) rfl dX4_run_21 ?_
      obtain ⟨x_3, ex_3, hf⟩ := pLet_out hf
      refine gTop ex_3 ?_
      refine lv_istore_n (lv' := [(2, .int x_3), (0, .ref a0), (1, .int x1)]) hx hb dX4_run_24 rfl hl (by decide) rfl (fun ls hl => ?_)
      refine lv_aload_n hx hb dX4_run_25 rfl (lv_at hl 1 rfl) ?_
      refine lv_iconst (v := 0) hx hb dX4_run_26 (by decide) ?_
      refine va_put (D := D) (ci := 3) (v := .int 0) (ty := .int) (C := RX4) (T := TX4) (N := 11) hx hb hts inX4_run_X4 tyX4 tyX4_ok nmX4 hown hK hP hD hS 0 rfl rfl 9 (by decide) (hts (.fieldLink RX4 88 "BlockCache" "ending" "I") (by decide +kernel)) (fun _ h9 => h9) rfl (by decide +kernel) rfl rfl (Nat.le_of_ble_eq_true rfl) dX4_run_27 (fun H locs hP hD hS => ?_)
      obtain ⟨u_4, eu_4, hf⟩ := pLet_out hf
      replace hP : va_P D vwCl (wB a0 a1 a2 a3 a4 a5 a6 a7 a8 a9 a10 a11 a12 a13 a14 a15 a16 cI u_4) H := by rw [eu_4]; exact hP
      replace hD : va_D A (wB a0 a1 a2 a3 a4 a5 a6 a7 a8 a9 a10 a11 a12 a13 a14 a15 a16 cI u_4) := by rw [eu_4]; exact hD
      refine lv_aload_n hx hb dX4_run_30 rfl (lv_at hl 1 rfl) ?_
      refine lv_iconst (v := (-1)) hx hb dX4_run_31 (by decide) ?_
      refine va_put (D := D) (ci := 3) (v := .int (-1)) (ty := .int) (C := RX4) (T := TX4) (N := 11) hx hb hts inX4_run_X4 tyX4 tyX4_ok nmX4 hown hK hP hD hS 0 rfl rfl 10 (by decide) (hts (.fieldLink RX4 36 "BlockCache" "exit" "I") (by decide +kernel)) (fun _ h9 => h9) rfl (by decide +kernel) rfl rfl (Nat.le_of_ble_eq_true rfl) dX4_run_32 (fun H locs hP hD hS => ?_)
      obtain ⟨u_5, eu_5, hf⟩ := pLet_out hf
      replace hP : va_P D vwCl (wB a0 a1 a2 a3 a4 a5 a6 a7 a8 a9 a10 a11 a12 a13 a14 a15 a16 cI u_5) H := by rw [eu_5]; exact hP
      replace hD : va_D A (wB a0 a1 a2 a3 a4 a5 a6 a7 a8 a9 a10 a11 a12 a13 a14 a15 a16 cI u_5) := by rw [eu_5]; exact hD
      refine lv_iconst (v := 0) hx hb dX4_run_35 (by decide) ?_
      refine lv_istore_n (lv' := [(3, .int 0), (2, .int x_3), (0, .ref a0), (1, .int x1)]) hx hb dX4_run_36 rfl hl (by decide) rfl (fun ls hl => ?_)
      exact wkX4_run_b37 C0 CX fuelX4_run_37 _ _ _ _ _ H locs ls hf hP hD hS (lv_sub hl [2, 3, 1, 0] rfl)
    · replace hf := pI_f c_2 hf
      exact wkX4_run_b12 C0 CX _ _ H locs ls hf hP hD hS (lv_sub hl [] rfl)
theorem ctX4_run (l : Launch) (htr : l.stackTraces = false) (D : va_G) (cI : ClassId) (a0 a1 a2 a3 a4 a5 a6 a7 a8 a9 a10 a11 a12 a13 a14 a15 a16 : Nat) (u : TB) (x1 : Int32) (z : Int32 × Int32 × TB) (hz : fX4_run u x1 = some z) : CtXI l yX4_run wsX4_run rmX4_run D vwCl [(cI, .int)] [.ref a0, .int x1] (wB a0 a1 a2 a3 a4 a5 a6 a7 a8 a9 a10 a11 a12 a13 a14 a15 a16 cI u) z.1 z.2.1 (wB a0 a1 a2 a3 a4 a5 a6 a7 a8 a9 a10 a11 a12 a13 a14 a15 a16 cI z.2.2) :=
  ctXI_of (cc := cX4_run) (maxL := 5) (ret := (some .int)) htr (by decide) rfl (Nat.le_of_ble_eq_true rfl) (fun p e s m below meth c A ls C CX hl hP hD hS => wkX4_run C CX z _ _ s.heap [] ls hz hP hD hS hl)
abbrev rmX4_output : Room := { frames := 1, cells := 0, slots := 0, locals := 21 }
theorem inX4_output_X4 : ∀ w ∈ wsX40, w ∈ wsX4_output := by decide +kernel
set_option maxRecDepth 100000 in
set_option maxHeartbeats 4000000 in
theorem wkX4_output {p : Program} {l : Launch} {e : Env} {s : State} {m : MethodId} {args : Array Value} {below : List Frame} {meth : Method} {c : Code} {D : va_G} {cI : ClassId} {A : Nat → Prop} {a0 a1 a2 a3 a4 a5 a6 a7 a8 a9 a10 a11 a12 a13 a14 a15 a16 : Nat} (C : cxt p s m args meth c cX4_output (some .int) 2 RX4 wsX4_output D vwCl [(cI, .int)] A) : ∀ (z : Int32) (u : TB) (x1 : Int32) (H : Heap) (locs : List Loc) (ls : Array Slot), fX4_output u x1 = some z → va_P D vwCl (wB a0 a1 a2 a3 a4 a5 a6 a7 a8 a9 a10 a11 a12 a13 a14 a15 a16 cI u) H → va_D A (wB a0 a1 a2 a3 a4 a5 a6 a7 a8 a9 a10 a11 a12 a13 a14 a15 a16 cI u) → va_S A s.heap H locs → lv_has ls 2 [(0, .ref a0), (1, .int x1)] → W p l e rmX4_output s m args below meth c H locs 0 0 (MQ below (oI D vwCl [(cI, .int)] A z (wB a0 a1 a2 a3 a4 a5 a6 a7 a8 a9 a10 a11 a12 a13 a14 a15 a16 cI u)) args s 0 0 A) (F0 m 0 ls []) := by
  have C0 := C
  obtain ⟨hx, hb, hr, hml, hown, hts, hlocks, hK, hA⟩ := C
  intro z u x1 H locs ls hf hP hD hS hl
  unfold fX4_output at hf
  refine lv_aload_n hx hb dX4_output_0 rfl (lv_at hl 0 rfl) ?_
  refine va_get (D := D) (ci := 3) (v := .ref a1) (C := RX4) (T := TX4) (N := 11) hx hb hts inX4_output_X4 hown hK hP 0 rfl rfl 0 (by decide) (hts (.fieldLink RX4 10 "BlockCache" "guest" "LBlockCache$Guest;") (by decide +kernel)) (fun _ h9 => h9) rfl dX4_output_1 ?_
  refine lv_iload_n hx hb dX4_output_4 rfl (lv_at hl 1 rfl) ?_
  obtain ⟨z_1, hz_1, hf⟩ := pB_out hf
  refine gI (w' := (wB a0 a1 a2 a3 a4 a5 a6 a7 a8 a9 a10 a11 a12 a13 a14 a15 a16 cI u)) (va_runV (As := [.int x1]) (rest := []) ⟨hx, hb, hml, hown, hts⟩ (ctX2_outputAt l D cI a1 a2 a3 a4 a5 a6 (gB_guest u) x1 z_1 hz_1 H.size) (cwV 1 hts gX4_output_X2_outputAt rfl rfl rfl (by decide +kernel) ⟨Nat.le_of_ble_eq_true rfl, Nat.le_of_ble_eq_true rfl⟩) (gPreV (ci := 1) (C := RX2) (T := TX2) (N := 6) hP hK hD [1, 2, 3, 4, 5, 6] (by decide) rfl 1 rfl rfl) rfl rfl hl.1 rfl (lv_room (Nat.le_of_ble_eq_true rfl)) dX4_output_5 ⟨Nat.le_of_ble_eq_true rfl, Nat.le_of_ble_eq_true rfl⟩) hP hD hS hA [1, 2, 3, 4, 5, 6] [0, 7, 8, 9, 10, 11, 12, 13, 14, 15, 16] [0, 11, 12, 13, 14, 15, 16, 1, 2, 3, 4, 5, 6, 7, 8, 9, 10] rfl rfl (by decide) (by decide) rfl (by decide) (fun H locs hP hD hS => ?_)
  have hz := Option.some.inj hf
  subst hz
  exact gRetI hx hb hr hlocks hK hP hD hS rfl rfl dX4_output_8
theorem ctX4_output (l : Launch) (D : va_G) (cI : ClassId) (a0 a1 a2 a3 a4 a5 a6 a7 a8 a9 a10 a11 a12 a13 a14 a15 a16 : Nat) (u : TB) (x1 : Int32) (z : Int32) (hz : fX4_output u x1 = some z) : CtI l yX4_output wsX4_output rmX4_output D vwCl [(cI, .int)] [.ref a0, .int x1] (wB a0 a1 a2 a3 a4 a5 a6 a7 a8 a9 a10 a11 a12 a13 a14 a15 a16 cI u) z (wB a0 a1 a2 a3 a4 a5 a6 a7 a8 a9 a10 a11 a12 a13 a14 a15 a16 cI u) :=
  ctI_of (cc := cX4_output) (maxL := 2) (ret := (some .int)) (by decide) rfl (Nat.le_of_ble_eq_true rfl) (fun p e s m below meth c A ls C hl hP hD hS => wkX4_output C z _ _ s.heap [] ls hz hP hD hS hl)
abbrev rmX4_count : Room := { frames := 6, cells := 1, slots := 6, locals := 81 }
theorem inX4_count_X0 : ∀ w ∈ wsX00, w ∈ wsX4_count := by decide +kernel
theorem inX4_count_X2 : ∀ w ∈ wsX20, w ∈ wsX4_count := by decide +kernel
theorem inX4_count_X4 : ∀ w ∈ wsX40, w ∈ wsX4_count := by decide +kernel
theorem xaX4_count_1 : ∀ w ∈ (vx_at0 RX4 45 "java/lang/IllegalArgumentException" ["java/lang/RuntimeException", "java/lang/Exception"]).filter goodWord, w ∈ wsX4_count := by decide +kernel
set_option maxRecDepth 100000 in
set_option maxHeartbeats 4000000 in
theorem wkX4_count {p : Program} {l : Launch} {e : Env} {s : State} {m : MethodId} {args : Array Value} {below : List Frame} {meth : Method} {c : Code} {D : va_G} {cI : ClassId} {A : Nat → Prop} {a0 a1 a2 a3 a4 a5 a6 a7 a8 a9 a10 a11 a12 a13 a14 a15 a16 : Nat} (C : cxt p s m args meth c cX4_count (some .int) 2 RX4 wsX4_count D vwCl [(cI, .int)] A) (CX : cxX l s c A) : ∀ (z : Int32 × Int32) (u : TB) (x1 : Int32) (H : Heap) (locs : List Loc) (ls : Array Slot), fX4_count u x1 = z → va_P D vwCl (wB a0 a1 a2 a3 a4 a5 a6 a7 a8 a9 a10 a11 a12 a13 a14 a15 a16 cI u) H → va_D A (wB a0 a1 a2 a3 a4 a5 a6 a7 a8 a9 a10 a11 a12 a13 a14 a15 a16 cI u) → va_S A s.heap H locs → lv_has ls 2 [(0, .ref a0), (1, .int x1)] → W p l e rmX4_count s m args below meth c H locs 0 0 (vx_MQ below (oIk D vwCl [(cI, .int)] A z.1 z.2 (wB a0 a1 a2 a3 a4 a5 a6 a7 a8 a9 a10 a11 a12 a13 a14 a15 a16 cI u)) (oX D vwCl [(cI, .int)] A z.1 (wB a0 a1 a2 a3 a4 a5 a6 a7 a8 a9 a10 a11 a12 a13 a14 a15 a16 cI u)) args s 1 6 A) (F0 m 0 ls []) := by
  have C0 := C
  obtain ⟨hx, hb, hr, hml, hown, hts, hlocks, hK, hA⟩ := C
  intro z u x1 H locs ls hf hP hD hS hl
  unfold fX4_count at hf
  refine lv_iload_n hx hb dX4_count_0 rfl (lv_at hl 1 rfl) ?_
  by_cases c_1 : x1 = 0
  · replace hf := pI_t c_1 hf
    refine lv_tableIn (tgt := 64) (off := 63) hx hb dX4_count_1 (by rw [c_1]; decide) (by rw [c_1]; decide) (by rw [c_1]; rfl) (by decide) ?_
    refine lv_aload_n hx hb dX4_count_64 rfl (lv_at hl 0 rfl) ?_
    refine va_get (D := D) (ci := 3) (v := .int (gB_executed u)) (C := RX4) (T := TX4) (N := 11) hx hb hts inX4_count_X4 hown hK hP 0 rfl rfl 4 (by decide) (hts (.fieldLink RX4 79 "BlockCache" "executed" "I") (by decide +kernel)) (fun _ h9 => h9) rfl dX4_count_65 ?_
    have hz := hf
    subst hz
    exact gRetIk hx hb hr hlocks hK hP hD hS rfl rfl rfl dX4_count_68 (by decide) (by decide)
  · replace hf := pI_f c_1 hf
    by_cases c_2 : x1 = 1
    · replace hf := pI_t c_2 hf
      refine lv_tableIn (tgt := 69) (off := 68) hx hb dX4_count_1 (by rw [c_2]; decide) (by rw [c_2]; decide) (by rw [c_2]; rfl) (by decide) ?_
      refine lv_aload_n hx hb dX4_count_69 rfl (lv_at hl 0 rfl) ?_
      refine va_get (D := D) (ci := 3) (v := .ref a7) (C := RX4) (T := TX4) (N := 11) hx hb hts inX4_count_X4 hown hK hP 0 rfl rfl 1 (by decide) (hts (.fieldLink RX4 19 "BlockCache" "cache" "LBlockCache$Cache;") (by decide +kernel)) (fun _ h9 => h9) rfl dX4_count_70 ?_
      refine va_get (D := D) (ci := 0) (v := .int (gC_blocks (gB_cache u))) (C := RX0) (T := TX0) (N := 13) hx hb hts inX4_count_X0 hown hK hP 7 rfl rfl 8 (by decide) (hts (.fieldLink RX4 97 "BlockCache$Cache" "blocks" "I") (by decide +kernel)) (fun _ h9 => h9) rfl dX4_count_73 ?_
      have hz := hf
      subst hz
      exact gRetIk hx hb hr hlocks hK hP hD hS rfl rfl rfl dX4_count_76 (by decide) (by decide)
    · replace hf := pI_f c_2 hf
      by_cases c_3 : x1 = 2
      · replace hf := pI_t c_3 hf
        refine lv_tableIn (tgt := 77) (off := 76) hx hb dX4_count_1 (by rw [c_3]; decide) (by rw [c_3]; decide) (by rw [c_3]; rfl) (by decide) ?_
        refine lv_aload_n hx hb dX4_count_77 rfl (lv_at hl 0 rfl) ?_
        refine va_get (D := D) (ci := 3) (v := .ref a7) (C := RX4) (T := TX4) (N := 11) hx hb hts inX4_count_X4 hown hK hP 0 rfl rfl 1 (by decide) (hts (.fieldLink RX4 19 "BlockCache" "cache" "LBlockCache$Cache;") (by decide +kernel)) (fun _ h9 => h9) rfl dX4_count_78 ?_
        refine va_get (D := D) (ci := 0) (v := .int (gC_filled (gB_cache u))) (C := RX0) (T := TX0) (N := 13) hx hb hts inX4_count_X0 hown hK hP 7 rfl rfl 9 (by decide) (hts (.fieldLink RX4 100 "BlockCache$Cache" "filled" "I") (by decide +kernel)) (fun _ h9 => h9) rfl dX4_count_81 ?_
        have hz := hf
        subst hz
        exact gRetIk hx hb hr hlocks hK hP hD hS rfl rfl rfl dX4_count_84 (by decide) (by decide)
      · replace hf := pI_f c_3 hf
        by_cases c_4 : x1 = 3
        · replace hf := pI_t c_4 hf
          refine lv_tableIn (tgt := 85) (off := 84) hx hb dX4_count_1 (by rw [c_4]; decide) (by rw [c_4]; decide) (by rw [c_4]; rfl) (by decide) ?_
          refine lv_aload_n hx hb dX4_count_85 rfl (lv_at hl 0 rfl) ?_
          refine va_get (D := D) (ci := 3) (v := .ref a7) (C := RX4) (T := TX4) (N := 11) hx hb hts inX4_count_X4 hown hK hP 0 rfl rfl 1 (by decide) (hts (.fieldLink RX4 19 "BlockCache" "cache" "LBlockCache$Cache;") (by decide +kernel)) (fun _ h9 => h9) rfl dX4_count_86 ?_
          refine va_get (D := D) (ci := 0) (v := .int (gC_translated (gB_cache u))) (C := RX0) (T := TX0) (N := 13) hx hb hts inX4_count_X0 hown hK hP 7 rfl rfl 10 (by decide) (hts (.fieldLink RX4 103 "BlockCache$Cache" "translated" "I") (by decide +kernel)) (fun _ h9 => h9) rfl dX4_count_89 ?_
          have hz := hf
          subst hz
          exact gRetIk hx hb hr hlocks hK hP hD hS rfl rfl rfl dX4_count_92 (by decide) (by decide)
        · replace hf := pI_f c_4 hf
          by_cases c_5 : x1 = 4
          · replace hf := pI_t c_5 hf
            refine lv_tableIn (tgt := 93) (off := 92) hx hb dX4_count_1 (by rw [c_5]; decide) (by rw [c_5]; decide) (by rw [c_5]; rfl) (by decide) ?_
            refine lv_aload_n hx hb dX4_count_93 rfl (lv_at hl 0 rfl) ?_
            refine va_get (D := D) (ci := 3) (v := .int (gB_invalidated u)) (C := RX4) (T := TX4) (N := 11) hx hb hts inX4_count_X4 hown hK hP 0 rfl rfl 5 (by decide) (hts (.fieldLink RX4 106 "BlockCache" "invalidated" "I") (by decide +kernel)) (fun _ h9 => h9) rfl dX4_count_94 ?_
            have hz := hf
            subst hz
            exact gRetIk hx hb hr hlocks hK hP hD hS rfl rfl rfl dX4_count_97 (by decide) (by decide)
          · replace hf := pI_f c_5 hf
            by_cases c_6 : x1 = 5
            · replace hf := pI_t c_6 hf
              refine lv_tableIn (tgt := 98) (off := 97) hx hb dX4_count_1 (by rw [c_6]; decide) (by rw [c_6]; decide) (by rw [c_6]; rfl) (by decide) ?_
              refine lv_aload_n hx hb dX4_count_98 rfl (lv_at hl 0 rfl) ?_
              refine va_get (D := D) (ci := 3) (v := .ref a7) (C := RX4) (T := TX4) (N := 11) hx hb hts inX4_count_X4 hown hK hP 0 rfl rfl 1 (by decide) (hts (.fieldLink RX4 19 "BlockCache" "cache" "LBlockCache$Cache;") (by decide +kernel)) (fun _ h9 => h9) rfl dX4_count_99 ?_
              refine va_get (D := D) (ci := 0) (v := .int (gC_flushes (gB_cache u))) (C := RX0) (T := TX0) (N := 13) hx hb hts inX4_count_X0 hown hK hP 7 rfl rfl 11 (by decide) (hts (.fieldLink RX4 109 "BlockCache$Cache" "flushes" "I") (by decide +kernel)) (fun _ h9 => h9) rfl dX4_count_102 ?_
              have hz := hf
              subst hz
              exact gRetIk hx hb hr hlocks hK hP hD hS rfl rfl rfl dX4_count_105 (by decide) (by decide)
            · replace hf := pI_f c_6 hf
              by_cases c_7 : x1 = 6
              · replace hf := pI_t c_7 hf
                refine lv_tableIn (tgt := 106) (off := 105) hx hb dX4_count_1 (by rw [c_7]; decide) (by rw [c_7]; decide) (by rw [c_7]; rfl) (by decide) ?_
                refine lv_aload_n hx hb dX4_count_106 rfl (lv_at hl 0 rfl) ?_
                refine va_get (D := D) (ci := 3) (v := .int (gB_lookups u)) (C := RX4) (T := TX4) (N := 11) hx hb hts inX4_count_X4 hown hK hP 0 rfl rfl 6 (by decide) (hts (.fieldLink RX4 112 "BlockCache" "lookups" "I") (by decide +kernel)) (fun _ h9 => h9) rfl dX4_count_107 ?_
                have hz := hf
                subst hz
                exact gRetIk hx hb hr hlocks hK hP hD hS rfl rfl rfl dX4_count_110 (by decide) (by decide)
              · replace hf := pI_f c_7 hf
                by_cases c_8 : x1 = 7
                · replace hf := pI_t c_8 hf
                  refine lv_tableIn (tgt := 111) (off := 110) hx hb dX4_count_1 (by rw [c_8]; decide) (by rw [c_8]; decide) (by rw [c_8]; rfl) (by decide) ?_
                  refine lv_aload_n hx hb dX4_count_111 rfl (lv_at hl 0 rfl) ?_
                  refine va_get (D := D) (ci := 3) (v := .int (gB_interpreted u)) (C := RX4) (T := TX4) (N := 11) hx hb hts inX4_count_X4 hown hK hP 0 rfl rfl 7 (by decide) (hts (.fieldLink RX4 115 "BlockCache" "interpreted" "I") (by decide +kernel)) (fun _ h9 => h9) rfl dX4_count_112 ?_
                  have hz := hf
                  subst hz
                  exact gRetIk hx hb hr hlocks hK hP hD hS rfl rfl rfl dX4_count_115 (by decide) (by decide)
                · replace hf := pI_f c_8 hf
                  by_cases c_9 : x1 = 8
                  · replace hf := pI_t c_9 hf
                    refine lv_tableIn (tgt := 116) (off := 115) hx hb dX4_count_1 (by rw [c_9]; decide) (by rw [c_9]; decide) (by rw [c_9]; rfl) (by decide) ?_
                    refine lv_aload_n hx hb dX4_count_116 rfl (lv_at hl 0 rfl) ?_
                    refine va_get (D := D) (ci := 3) (v := .int (gB_interrupts u)) (C := RX4) (T := TX4) (N := 11) hx hb hts inX4_count_X4 hown hK hP 0 rfl rfl 8 (by decide) (hts (.fieldLink RX4 118 "BlockCache" "interrupts" "I") (by decide +kernel)) (fun _ h9 => h9) rfl dX4_count_117 ?_
                    have hz := hf
                    subst hz
                    exact gRetIk hx hb hr hlocks hK hP hD hS rfl rfl rfl dX4_count_120 (by decide) (by decide)
                  · replace hf := pI_f c_9 hf
                    by_cases c_10 : x1 = 9
                    · replace hf := pI_t c_10 hf
                      refine lv_tableIn (tgt := 121) (off := 120) hx hb dX4_count_1 (by rw [c_10]; decide) (by rw [c_10]; decide) (by rw [c_10]; rfl) (by decide) ?_
                      refine lv_aload_n hx hb dX4_count_121 rfl (lv_at hl 0 rfl) ?_
                      refine va_get (D := D) (ci := 3) (v := .ref a7) (C := RX4) (T := TX4) (N := 11) hx hb hts inX4_count_X4 hown hK hP 0 rfl rfl 1 (by decide) (hts (.fieldLink RX4 19 "BlockCache" "cache" "LBlockCache$Cache;") (by decide +kernel)) (fun _ h9 => h9) rfl dX4_count_122 ?_
                      refine va_get (D := D) (ci := 0) (v := .int (gC_deadFlags (gB_cache u))) (C := RX0) (T := TX0) (N := 13) hx hb hts inX4_count_X0 hown hK hP 7 rfl rfl 12 (by decide) (hts (.fieldLink RX4 121 "BlockCache$Cache" "deadFlags" "I") (by decide +kernel)) (fun _ h9 => h9) rfl dX4_count_125 ?_
                      have hz := hf
                      subst hz
                      exact gRetIk hx hb hr hlocks hK hP hD hS rfl rfl rfl dX4_count_128 (by decide) (by decide)
                    · replace hf := pI_f c_10 hf
                      by_cases c_11 : x1 = 10
                      · replace hf := pI_t c_11 hf
                        refine lv_tableIn (tgt := 129) (off := 128) hx hb dX4_count_1 (by rw [c_11]; decide) (by rw [c_11]; decide) (by rw [c_11]; rfl) (by decide) ?_
                        refine lv_aload_n hx hb dX4_count_129 rfl (lv_at hl 0 rfl) ?_
                        refine va_get (D := D) (ci := 3) (v := .ref a1) (C := RX4) (T := TX4) (N := 11) hx hb hts inX4_count_X4 hown hK hP 0 rfl rfl 0 (by decide) (hts (.fieldLink RX4 10 "BlockCache" "guest" "LBlockCache$Guest;") (by decide +kernel)) (fun _ h9 => h9) rfl dX4_count_130 ?_
                        refine va_get (D := D) (ci := 1) (v := .int (gG_given (gB_guest u))) (C := RX2) (T := TX2) (N := 6) hx hb hts inX4_count_X2 hown hK hP 1 rfl rfl 4 (by decide) (hts (.fieldLink RX4 124 "BlockCache$Guest" "given" "I") (by decide +kernel)) (fun _ h9 => h9) rfl dX4_count_133 ?_
                        have hz := hf
                        subst hz
                        exact gRetIk hx hb hr hlocks hK hP hD hS rfl rfl rfl dX4_count_136 (by decide) (by decide)
                      · replace hf := pI_f c_11 hf
                        by_cases c_12 : x1 = 11
                        · replace hf := pI_t c_12 hf
                          refine lv_tableIn (tgt := 137) (off := 136) hx hb dX4_count_1 (by rw [c_12]; decide) (by rw [c_12]; decide) (by rw [c_12]; rfl) (by decide) ?_
                          refine lv_aload_n hx hb dX4_count_137 rfl (lv_at hl 0 rfl) ?_
                          refine va_get (D := D) (ci := 3) (v := .int (gB_ending u)) (C := RX4) (T := TX4) (N := 11) hx hb hts inX4_count_X4 hown hK hP 0 rfl rfl 9 (by decide) (hts (.fieldLink RX4 88 "BlockCache" "ending" "I") (by decide +kernel)) (fun _ h9 => h9) rfl dX4_count_138 ?_
                          have hz := hf
                          subst hz
                          exact gRetIk hx hb hr hlocks hK hP hD hS rfl rfl rfl dX4_count_141 (by decide) (by decide)
                        · replace hf := pI_f c_12 hf
                          have nc_1 := lv_neT (k := 0) (a := 0) c_1 (by decide)
                          have nc_2 := lv_neT (k := 1) (a := 1) c_2 (by decide)
                          have nc_3 := lv_neT (k := 2) (a := 2) c_3 (by decide)
                          have nc_4 := lv_neT (k := 3) (a := 3) c_4 (by decide)
                          have nc_5 := lv_neT (k := 4) (a := 4) c_5 (by decide)
                          have nc_6 := lv_neT (k := 5) (a := 5) c_6 (by decide)
                          have nc_7 := lv_neT (k := 6) (a := 6) c_7 (by decide)
                          have nc_8 := lv_neT (k := 7) (a := 7) c_8 (by decide)
                          have nc_9 := lv_neT (k := 8) (a := 8) c_9 (by decide)
                          have nc_10 := lv_neT (k := 9) (a := 9) c_10 (by decide)
                          have nc_11 := lv_neT (k := 10) (a := 10) c_11 (by decide)
                          have nc_12 := lv_neT (k := 11) (a := 11) c_12 (by decide)
                          refine lv_tableOut (tgt := 142) hx hb dX4_count_1 (by omega) (by decide) ?_
                          have hz := hf
                          subst hz
                          exact gThrow (cls := "java/lang/IllegalArgumentException") (names := ["java/lang/RuntimeException", "java/lang/Exception"]) (ik := 43) (ic := 45) CX hx hb (hl.1.trans hml.symm) hlocks hown hts hK hP hD hS (by decide) (by decide) (by decide +kernel) (by decide +kernel) xaX4_count_1 xn45 xg45 dX4_count_142 dX4_count_145 dX4_count_146 dX4_count_149 (by decide) (by decide) (by decide) (by decide) rfl rfl
theorem ctX4_count (l : Launch) (htr : l.stackTraces = false) (D : va_G) (cI : ClassId) (a0 a1 a2 a3 a4 a5 a6 a7 a8 a9 a10 a11 a12 a13 a14 a15 a16 : Nat) (u : TB) (x1 : Int32) (z : Int32 × Int32) (hz : fX4_count u x1 = z) : CtXI l yX4_count wsX4_count rmX4_count D vwCl [(cI, .int)] [.ref a0, .int x1] (wB a0 a1 a2 a3 a4 a5 a6 a7 a8 a9 a10 a11 a12 a13 a14 a15 a16 cI u) z.1 z.2 (wB a0 a1 a2 a3 a4 a5 a6 a7 a8 a9 a10 a11 a12 a13 a14 a15 a16 cI u) :=
  ctXI_of (cc := cX4_count) (maxL := 2) (ret := (some .int)) htr (by decide) rfl (Nat.le_of_ble_eq_true rfl) (fun p e s m below meth c A ls C CX hl hP hD hS => wkX4_count C CX z _ _ s.heap [] ls hz hP hD hS hl)

abbrev rmX5_isDisturbed : Room := { frames := 0, cells := 0, slots := 0, locals := 0 }
theorem inX5_isDisturbed_X5 : ∀ w ∈ wsX50, w ∈ wsX5_isDisturbed := by decide +kernel
set_option maxRecDepth 100000 in
set_option maxHeartbeats 4000000 in
theorem wkX5_isDisturbed_b55 {p : Program} {l : Launch} {e : Env} {s : State} {m : MethodId} {args : Array Value} {below : List Frame} {meth : Method} {c : Code} {D : va_G} {cI : ClassId} {A : Nat → Prop} {a0 a1 a2 a3 a4 a5 a6 a7 a8 a9 a10 a11 a12 a13 : Nat} (C : cxt p s m args meth c cX5_isDisturbed (some .boolean) 4 RX5 wsX5_isDisturbed D vwCl [(cI, .int)] A) {K4 : TM → Int32 → Int32 → Int32 → Option (Int32)} (hK4 : ∀ (z : Int32) (u : TM) (x1 : Int32) (x2 : Int32) (x3 : Int32) (H : Heap) (locs : List Loc) (ls : Array Slot), K4 u x1 x2 x3 = some z → va_P D vwCl (wM a0 a1 a2 a3 a4 a5 a6 a7 a8 a9 a10 a11 a12 a13 cI u) H → va_D A (wM a0 a1 a2 a3 a4 a5 a6 a7 a8 a9 a10 a11 a12 a13 cI u) → va_S A s.heap H locs → lv_has ls 4 [(0, .ref a0), (1, .int x1), (2, .int x2), (3, .int x3)] → W p l e rmX5_isDisturbed s m args below meth c H locs 0 0 (MQ below (oI D vwCl [(cI, .int)] A z (wM a0 a1 a2 a3 a4 a5 a6 a7 a8 a9 a10 a11 a12 a13 cI u)) args s 0 0 A) (F0 m 4 ls [])) : ∀ (z : Int32) (u : TM) (x1 : Int32) (x3 : Int32) (y0 : Int32) (H : Heap) (locs : List Loc) (ls : Array Slot), fX5_isDisturbed_b55 K4 u x1 x3 y0 = some z → va_P D vwCl (wM a0 a1 a2 a3 a4 a5 a6 a7 a8 a9 a10 a11 a12 a13 cI u) H → va_D A (wM a0 a1 a2 a3 a4 a5 a6 a7 a8 a9 a10 a11 a12 a13 cI u) → va_S A s.heap H locs → lv_has ls 4 [(0, .ref a0), (1, .int x1), (3, .int x3)] → W p l e rmX5_isDisturbed s m args below meth c H locs 0 0 (MQ below (oI D vwCl [(cI, .int)] A z (wM a0 a1 a2 a3 a4 a5 a6 a7 a8 a9 a10 a11 a12 a13 cI u)) args s 0 0 A) (F0 m 55 ls [.int y0]) := by
  have C0 := C
  obtain ⟨hx, hb, hr, hml, hown, hts, hlocks, hK, hA⟩ := C
  intro z u x1 x3 y0 H locs ls hf hP hD hS hl
  unfold fX5_isDisturbed_b55 at hf
  refine lv_istore_n (lv' := [(2, .int y0), (0, .ref a0), (1, .int x1), (3, .int x3)]) hx hb dX5_isDisturbed_55 rfl hl (by decide) rfl (fun ls hl => ?_)
  obtain ⟨x_1, ex_1, hf⟩ := pLet_out hf
  refine lv_iinc (v := x_1) (lv' := [(3, .int x_1), (2, .int y0), (0, .ref a0), (1, .int x1)]) hx hb dX5_isDisturbed_56 hl (k := 3) rfl (by rw [ex_1]; rfl) (by decide) rfl (fun ls hl => ?_)
  refine lv_goto (tgt := 4) hx hb dX5_isDisturbed_59 (by decide) ?_
  exact hK4 _ _ _ _ _ H locs ls hf hP hD hS (lv_sub hl [2, 3, 1, 0] rfl)
set_option maxRecDepth 100000 in
set_option maxHeartbeats 4000000 in
theorem wkX5_isDisturbed_b50 {p : Program} {l : Launch} {e : Env} {s : State} {m : MethodId} {args : Array Value} {below : List Frame} {meth : Method} {c : Code} {D : va_G} {cI : ClassId} {A : Nat → Prop} {a0 a1 a2 a3 a4 a5 a6 a7 a8 a9 a10 a11 a12 a13 : Nat} (C : cxt p s m args meth c cX5_isDisturbed (some .boolean) 4 RX5 wsX5_isDisturbed D vwCl [(cI, .int)] A) {K4 : TM → Int32 → Int32 → Int32 → Option (Int32)} (hK4 : ∀ (z : Int32) (u : TM) (x1 : Int32) (x2 : Int32) (x3 : Int32) (H : Heap) (locs : List Loc) (ls : Array Slot), K4 u x1 x2 x3 = some z → va_P D vwCl (wM a0 a1 a2 a3 a4 a5 a6 a7 a8 a9 a10 a11 a12 a13 cI u) H → va_D A (wM a0 a1 a2 a3 a4 a5 a6 a7 a8 a9 a10 a11 a12 a13 cI u) → va_S A s.heap H locs → lv_has ls 4 [(0, .ref a0), (1, .int x1), (2, .int x2), (3, .int x3)] → W p l e rmX5_isDisturbed s m args below meth c H locs 0 0 (MQ below (oI D vwCl [(cI, .int)] A z (wM a0 a1 a2 a3 a4 a5 a6 a7 a8 a9 a10 a11 a12 a13 cI u)) args s 0 0 A) (F0 m 4 ls [])) : ∀ (z : Int32) (u : TM) (x1 : Int32) (x3 : Int32) (H : Heap) (locs : List Loc) (ls : Array Slot), fX5_isDisturbed_b50 K4 u x1 x3 = some z → va_P D vwCl (wM a0 a1 a2 a3 a4 a5 a6 a7 a8 a9 a10 a11 a12 a13 cI u) H → va_D A (wM a0 a1 a2 a3 a4 a5 a6 a7 a8 a9 a10 a11 a12 a13 cI u) → va_S A s.heap H locs → lv_has ls 4 [(0, .ref a0), (1, .int x1), (3, .int x3)] → W p l e rmX5_isDisturbed s m args below meth c H locs 0 0 (MQ below (oI D vwCl [(cI, .int)] A z (wM a0 a1 a2 a3 a4 a5 a6 a7 a8 a9 a10 a11 a12 a13 cI u)) args s 0 0 A) (F0 m 50 ls []) := by
  have C0 := C
  obtain ⟨hx, hb, hr, hml, hown, hts, hlocks, hK, hA⟩ := C
  intro z u x1 x3 H locs ls hf hP hD hS hl
  unfold fX5_isDisturbed_b50 at hf
  refine lv_iconst (v := 1) hx hb dX5_isDisturbed_50 (by decide) ?_
  refine lv_goto (tgt := 55) hx hb dX5_isDisturbed_51 (by decide) ?_
  exact wkX5_isDisturbed_b55 C0 hK4 _ _ _ _ _ H locs ls hf hP hD hS (lv_sub hl [0, 1, 2] rfl)
set_option maxRecDepth 100000 in
set_option maxHeartbeats 4000000 in
theorem wkX5_isDisturbed_b54 {p : Program} {l : Launch} {e : Env} {s : State} {m : MethodId} {args : Array Value} {below : List Frame} {meth : Method} {c : Code} {D : va_G} {cI : ClassId} {A : Nat → Prop} {a0 a1 a2 a3 a4 a5 a6 a7 a8 a9 a10 a11 a12 a13 : Nat} (C : cxt p s m args meth c cX5_isDisturbed (some .boolean) 4 RX5 wsX5_isDisturbed D vwCl [(cI, .int)] A) {K4 : TM → Int32 → Int32 → Int32 → Option (Int32)} (hK4 : ∀ (z : Int32) (u : TM) (x1 : Int32) (x2 : Int32) (x3 : Int32) (H : Heap) (locs : List Loc) (ls : Array Slot), K4 u x1 x2 x3 = some z → va_P D vwCl (wM a0 a1 a2 a3 a4 a5 a6 a7 a8 a9 a10 a11 a12 a13 cI u) H → va_D A (wM a0 a1 a2 a3 a4 a5 a6 a7 a8 a9 a10 a11 a12 a13 cI u) → va_S A s.heap H locs → lv_has ls 4 [(0, .ref a0), (1, .int x1), (2, .int x2), (3, .int x3)] → W p l e rmX5_isDisturbed s m args below meth c H locs 0 0 (MQ below (oI D vwCl [(cI, .int)] A z (wM a0 a1 a2 a3 a4 a5 a6 a7 a8 a9 a10 a11 a12 a13 cI u)) args s 0 0 A) (F0 m 4 ls [])) : ∀ (z : Int32) (u : TM) (x1 : Int32) (x3 : Int32) (H : Heap) (locs : List Loc) (ls : Array Slot), fX5_isDisturbed_b54 K4 u x1 x3 = some z → va_P D vwCl (wM a0 a1 a2 a3 a4 a5 a6 a7 a8 a9 a10 a11 a12 a13 cI u) H → va_D A (wM a0 a1 a2 a3 a4 a5 a6 a7 a8 a9 a10 a11 a12 a13 cI u) → va_S A s.heap H locs → lv_has ls 4 [(0, .ref a0), (1, .int x1), (3, .int x3)] → W p l e rmX5_isDisturbed s m args below meth c H locs 0 0 (MQ below (oI D vwCl [(cI, .int)] A z (wM a0 a1 a2 a3 a4 a5 a6 a7 a8 a9 a10 a11 a12 a13 cI u)) args s 0 0 A) (F0 m 54 ls []) := by
  have C0 := C
  obtain ⟨hx, hb, hr, hml, hown, hts, hlocks, hK, hA⟩ := C
  intro z u x1 x3 H locs ls hf hP hD hS hl
  unfold fX5_isDisturbed_b54 at hf
  refine lv_iconst (v := 0) hx hb dX5_isDisturbed_54 (by decide) ?_
  exact wkX5_isDisturbed_b55 C0 hK4 _ _ _ _ _ H locs ls hf hP hD hS (lv_sub hl [0, 1, 2] rfl)
set_option maxRecDepth 100000 in
set_option maxHeartbeats 4000000 in
theorem wkX5_isDisturbed_b4 {p : Program} {l : Launch} {e : Env} {s : State} {m : MethodId} {args : Array Value} {below : List Frame} {meth : Method} {c : Code} {D : va_G} {cI : ClassId} {A : Nat → Prop} {a0 a1 a2 a3 a4 a5 a6 a7 a8 a9 a10 a11 a12 a13 : Nat} (C : cxt p s m args meth c cX5_isDisturbed (some .boolean) 4 RX5 wsX5_isDisturbed D vwCl [(cI, .int)] A) : ∀ (fu : Nat) (z : Int32) (u : TM) (x1 : Int32) (x2 : Int32) (x3 : Int32) (H : Heap) (locs : List Loc) (ls : Array Slot), fX5_isDisturbed_b4 fu u x1 x2 x3 = some z → va_P D vwCl (wM a0 a1 a2 a3 a4 a5 a6 a7 a8 a9 a10 a11 a12 a13 cI u) H → va_D A (wM a0 a1 a2 a3 a4 a5 a6 a7 a8 a9 a10 a11 a12 a13 cI u) → va_S A s.heap H locs → lv_has ls 4 [(0, .ref a0), (1, .int x1), (2, .int x2), (3, .int x3)] → W p l e rmX5_isDisturbed s m args below meth c H locs 0 0 (MQ below (oI D vwCl [(cI, .int)] A z (wM a0 a1 a2 a3 a4 a5 a6 a7 a8 a9 a10 a11 a12 a13 cI u)) args s 0 0 A) (F0 m 4 ls []) := by
  have C0 := C
  obtain ⟨hx, hb, hr, hml, hown, hts, hlocks, hK, hA⟩ := C
  intro fu
  induction fu with
  | zero =>
    intro z u x1 x2 x3 H locs ls hf hP hD hS hl
    cases hf
  | succ nn ih =>
    intro z u x1 x2 x3 H locs ls hf hP hD hS hl
    simp only [fX5_isDisturbed_b4] at hf
    refine lv_iload_n hx hb dX5_isDisturbed_4 rfl (lv_at hl 3 rfl) ?_
    refine lv_aload_n hx hb dX5_isDisturbed_5 rfl (lv_at hl 0 rfl) ?_
    refine va_get (D := D) (ci := 4) (v := .int (gM_requestMany u)) (C := RX5) (T := TX5) (N := 27) hx hb hts inX5_isDisturbed_X5 hown hK hP 0 rfl rfl 6 (by decide) (hts (.fieldLink RX5 162 "BlockCacheModel" "requestMany" "I") (by decide +kernel)) (fun _ h9 => h9) rfl dX5_isDisturbed_6 ?_
    refine lv_icmp_ge (tgt := 62) hx hb dX5_isDisturbed_9 (by decide) (fun c_1 => ?_) (fun c_1 => ?_)
    · replace hf := pI_t c_1 hf
      refine lv_iload_n hx hb dX5_isDisturbed_62 rfl (lv_at hl 2 rfl) ?_
      obtain ⟨h_2, hf⟩ := pZ_out hf
      have hz := Option.some.inj hf
      subst hz
      exact gRetZ hx hb hr hlocks hK hP hD hS h_2 rfl rfl dX5_isDisturbed_63
    · replace hf := pI_f c_1 hf
      refine lv_iload_n hx hb dX5_isDisturbed_12 rfl (lv_at hl 2 rfl) ?_
      refine lv_if_ne (tgt := 50) hx hb dX5_isDisturbed_13 (by decide) (fun c_3 => ?_) (fun c_3 => ?_)
      · replace hf := pI_f c_3 hf
        exact wkX5_isDisturbed_b50 C0 ih _ _ _ _ H locs ls hf hP hD hS (lv_sub hl [0, 1, 3] rfl)
      · replace hf := pI_t c_3 hf
        refine lv_aload_n hx hb dX5_isDisturbed_16 rfl (lv_at hl 0 rfl) ?_
        refine va_get (D := D) (ci := 4) (v := .ref a4) (C := RX5) (T := TX5) (N := 27) hx hb hts inX5_isDisturbed_X5 hown hK hP 0 rfl rfl 5 (by decide) (hts (.fieldLink RX5 19 "BlockCacheModel" "requests" "[I") (by decide +kernel)) (fun _ h9 => h9) rfl dX5_isDisturbed_17 ?_
        refine lv_iload_n hx hb dX5_isDisturbed_20 rfl (lv_at hl 3 rfl) ?_
        obtain ⟨h_4, hf⟩ := pIn_out hf
        refine va_iald hx hb hK hP 4 0 rfl rfl h_4 dX5_isDisturbed_21 ?_
        refine lv_aload_n hx hb dX5_isDisturbed_22 rfl (lv_at hl 0 rfl) ?_
        refine va_get (D := D) (ci := 4) (v := .ref a12) (C := RX5) (T := TX5) (N := 27) hx hb hts inX5_isDisturbed_X5 hown hK hP 0 rfl rfl 17 (by decide) (hts (.fieldLink RX5 50 "BlockCacheModel" "counts" "[I") (by decide +kernel)) (fun _ h9 => h9) rfl dX5_isDisturbed_23 ?_
        refine lv_iconst (v := 0) hx hb dX5_isDisturbed_26 (by decide) ?_
        obtain ⟨h_5, hf⟩ := pIn_out hf
        refine va_iald hx hb hK hP 12 0 rfl rfl h_5 dX5_isDisturbed_27 ?_
        refine lv_icmp_le (tgt := 54) hx hb dX5_isDisturbed_28 (by decide) (fun c_6 => ?_) (fun c_6 => ?_)
        · replace hf := pI_t c_6 hf
          exact wkX5_isDisturbed_b54 C0 ih _ _ _ _ H locs ls hf hP hD hS (lv_sub hl [0, 1, 3] rfl)
        · replace hf := pI_f c_6 hf
          refine lv_aload_n hx hb dX5_isDisturbed_31 rfl (lv_at hl 0 rfl) ?_
          refine va_get (D := D) (ci := 4) (v := .ref a4) (C := RX5) (T := TX5) (N := 27) hx hb hts inX5_isDisturbed_X5 hown hK hP 0 rfl rfl 5 (by decide) (hts (.fieldLink RX5 19 "BlockCacheModel" "requests" "[I") (by decide +kernel)) (fun _ h9 => h9) rfl dX5_isDisturbed_32 ?_
          refine lv_iload_n hx hb dX5_isDisturbed_35 rfl (lv_at hl 3 rfl) ?_
          obtain ⟨h_7, hf⟩ := pIn_out hf
          refine va_iald hx hb hK hP 4 0 rfl rfl h_7 dX5_isDisturbed_36 ?_
          refine lv_aload_n hx hb dX5_isDisturbed_37 rfl (lv_at hl 0 rfl) ?_
          refine va_get (D := D) (ci := 4) (v := .ref a12) (C := RX5) (T := TX5) (N := 27) hx hb hts inX5_isDisturbed_X5 hown hK hP 0 rfl rfl 17 (by decide) (hts (.fieldLink RX5 50 "BlockCacheModel" "counts" "[I") (by decide +kernel)) (fun _ h9 => h9) rfl dX5_isDisturbed_38 ?_
          refine lv_iconst (v := 0) hx hb dX5_isDisturbed_41 (by decide) ?_
          obtain ⟨h_8, hf⟩ := pIn_out hf
          refine va_iald hx hb hK hP 12 0 rfl rfl h_8 dX5_isDisturbed_42 ?_
          refine lv_iload_n hx hb dX5_isDisturbed_43 rfl (lv_at hl 1 rfl) ?_
          refine lv_iadd hx hb dX5_isDisturbed_44 ?_
          refine lv_iconst (v := 1) hx hb dX5_isDisturbed_45 (by decide) ?_
          refine lv_isub hx hb dX5_isDisturbed_46 ?_
          refine lv_icmp_gt (tgt := 54) hx hb dX5_isDisturbed_47 (by decide) (fun c_9 => ?_) (fun c_9 => ?_)
          · replace hf := pI_t c_9 hf
            exact wkX5_isDisturbed_b54 C0 ih _ _ _ _ H locs ls hf hP hD hS (lv_sub hl [0, 1, 3] rfl)
          · replace hf := pI_f c_9 hf
            exact wkX5_isDisturbed_b50 C0 ih _ _ _ _ H locs ls hf hP hD hS (lv_sub hl [0, 1, 3] rfl)
set_option maxRecDepth 100000 in
set_option maxHeartbeats 4000000 in
theorem wkX5_isDisturbed {p : Program} {l : Launch} {e : Env} {s : State} {m : MethodId} {args : Array Value} {below : List Frame} {meth : Method} {c : Code} {D : va_G} {cI : ClassId} {A : Nat → Prop} {a0 a1 a2 a3 a4 a5 a6 a7 a8 a9 a10 a11 a12 a13 : Nat} (C : cxt p s m args meth c cX5_isDisturbed (some .boolean) 4 RX5 wsX5_isDisturbed D vwCl [(cI, .int)] A) : ∀ (z : Int32) (u : TM) (x1 : Int32) (H : Heap) (locs : List Loc) (ls : Array Slot), fX5_isDisturbed u x1 = some z → va_P D vwCl (wM a0 a1 a2 a3 a4 a5 a6 a7 a8 a9 a10 a11 a12 a13 cI u) H → va_D A (wM a0 a1 a2 a3 a4 a5 a6 a7 a8 a9 a10 a11 a12 a13 cI u) → va_S A s.heap H locs → lv_has ls 4 [(0, .ref a0), (1, .int x1)] → W p l e rmX5_isDisturbed s m args below meth c H locs 0 0 (MQ below (oI D vwCl [(cI, .int)] A z (wM a0 a1 a2 a3 a4 a5 a6 a7 a8 a9 a10 a11 a12 a13 cI u)) args s 0 0 A) (F0 m 0 ls []) := by
  have C0 := C
  obtain ⟨hx, hb, hr, hml, hown, hts, hlocks, hK, hA⟩ := C
  intro z u x1 H locs ls hf hP hD hS hl
  unfold fX5_isDisturbed at hf
  refine lv_iconst (v := 0) hx hb dX5_isDisturbed_0 (by decide) ?_
  refine lv_istore_n (lv' := [(2, .int 0), (0, .ref a0), (1, .int x1)]) hx hb dX5_isDisturbed_1 rfl hl (by decide) rfl (fun ls hl => ?_)
  refine lv_iconst (v := 0) hx hb dX5_isDisturbed_2 (by decide) ?_
  refine lv_istore_n (lv' := [(3, .int 0), (2, .int 0), (0, .ref a0), (1, .int x1)]) hx hb dX5_isDisturbed_3 rfl hl (by decide) rfl (fun ls hl => ?_)
  exact wkX5_isDisturbed_b4 C0 fuelX5_isDisturbed_4 _ _ _ _ _ H locs ls hf hP hD hS (lv_sub hl [2, 3, 1, 0] rfl)
theorem ctX5_isDisturbed (l : Launch) (D : va_G) (cI : ClassId) (a0 a1 a2 a3 a4 a5 a6 a7 a8 a9 a10 a11 a12 a13 : Nat) (u : TM) (x1 : Int32) (z : Int32) (hz : fX5_isDisturbed u x1 = some z) : CtI l yX5_isDisturbed wsX5_isDisturbed rmX5_isDisturbed D vwCl [(cI, .int)] [.ref a0, .int x1] (wM a0 a1 a2 a3 a4 a5 a6 a7 a8 a9 a10 a11 a12 a13 cI u) z (wM a0 a1 a2 a3 a4 a5 a6 a7 a8 a9 a10 a11 a12 a13 cI u) :=
  ctI_of (cc := cX5_isDisturbed) (maxL := 4) (ret := (some .boolean)) (by decide) rfl (Nat.le_of_ble_eq_true rfl) (fun p e s m below meth c A ls C hl hP hD hS => wkX5_isDisturbed C z _ _ s.heap [] ls hz hP hD hS hl)
abbrev rmX5_isLinked : Room := { frames := 0, cells := 0, slots := 0, locals := 0 }
theorem inX5_isLinked_X5 : ∀ w ∈ wsX50, w ∈ wsX5_isLinked := by decide +kernel
set_option maxRecDepth 100000 in
set_option maxHeartbeats 4000000 in
theorem wkX5_isLinked {p : Program} {l : Launch} {e : Env} {s : State} {m : MethodId} {args : Array Value} {below : List Frame} {meth : Method} {c : Code} {D : va_G} {cI : ClassId} {A : Nat → Prop} {a0 a1 a2 a3 a4 a5 a6 a7 a8 a9 a10 a11 a12 a13 : Nat} (C : cxt p s m args meth c cX5_isLinked (some .boolean) 2 RX5 wsX5_isLinked D vwCl [(cI, .int)] A) : ∀ (z : Int32) (u : TM) (x1 : Int32) (H : Heap) (locs : List Loc) (ls : Array Slot), fX5_isLinked u x1 = some z → va_P D vwCl (wM a0 a1 a2 a3 a4 a5 a6 a7 a8 a9 a10 a11 a12 a13 cI u) H → va_D A (wM a0 a1 a2 a3 a4 a5 a6 a7 a8 a9 a10 a11 a12 a13 cI u) → va_S A s.heap H locs → lv_has ls 2 [(0, .ref a0), (1, .int x1)] → W p l e rmX5_isLinked s m args below meth c H locs 0 0 (MQ below (oI D vwCl [(cI, .int)] A z (wM a0 a1 a2 a3 a4 a5 a6 a7 a8 a9 a10 a11 a12 a13 cI u)) args s 0 0 A) (F0 m 0 ls []) := by
  have C0 := C
  obtain ⟨hx, hb, hr, hml, hown, hts, hlocks, hK, hA⟩ := C
  intro z u x1 H locs ls hf hP hD hS hl
  unfold fX5_isLinked at hf
  refine lv_aload_n hx hb dX5_isLinked_0 rfl (lv_at hl 0 rfl) ?_
  refine va_get (D := D) (ci := 4) (v := .int (gM_leftBy u)) (C := RX5) (T := TX5) (N := 27) hx hb hts inX5_isLinked_X5 hown hK hP 0 rfl rfl 25 (by decide) (hts (.fieldLink RX5 56 "BlockCacheModel" "leftBy" "I") (by decide +kernel)) (fun _ h9 => h9) rfl dX5_isLinked_1 ?_
  refine lv_if_lt (tgt := 38) hx hb dX5_isLinked_4 (by decide) (fun c_1 => ?_) (fun c_1 => ?_)
  · replace hf := pI_t c_1 hf
    refine lv_iconst (v := 0) hx hb dX5_isLinked_38 (by decide) ?_
    have hz := Option.some.inj hf
    subst hz
    exact gRetZ hx hb hr hlocks hK hP hD hS (by decide) rfl rfl dX5_isLinked_39
  · replace hf := pI_f c_1 hf
    refine lv_aload_n hx hb dX5_isLinked_7 rfl (lv_at hl 0 rfl) ?_
    refine va_get (D := D) (ci := 4) (v := .ref a6) (C := RX5) (T := TX5) (N := 27) hx hb hts inX5_isLinked_X5 hown hK hP 0 rfl rfl 9 (by decide) (hts (.fieldLink RX5 29 "BlockCacheModel" "size" "[I") (by decide +kernel)) (fun _ h9 => h9) rfl dX5_isLinked_8 ?_
    refine lv_iload_n hx hb dX5_isLinked_11 rfl (lv_at hl 1 rfl) ?_
    obtain ⟨h_2, hf⟩ := pIn_out hf
    refine va_iald hx hb hK hP 6 0 rfl rfl h_2 dX5_isLinked_12 ?_
    refine lv_if_le (tgt := 38) hx hb dX5_isLinked_13 (by decide) (fun c_3 => ?_) (fun c_3 => ?_)
    · replace hf := pI_t c_3 hf
      refine lv_iconst (v := 0) hx hb dX5_isLinked_38 (by decide) ?_
      have hz := Option.some.inj hf
      subst hz
      exact gRetZ hx hb hr hlocks hK hP hD hS (by decide) rfl rfl dX5_isLinked_39
    · replace hf := pI_f c_3 hf
      refine lv_aload_n hx hb dX5_isLinked_16 rfl (lv_at hl 0 rfl) ?_
      refine va_get (D := D) (ci := 4) (v := .ref a11) (C := RX5) (T := TX5) (N := 27) hx hb hts inX5_isLinked_X5 hown hK hP 0 rfl rfl 14 (by decide) (hts (.fieldLink RX5 44 "BlockCacheModel" "exitTo" "[I") (by decide +kernel)) (fun _ h9 => h9) rfl dX5_isLinked_17 ?_
      refine lv_aload_n hx hb dX5_isLinked_20 rfl (lv_at hl 0 rfl) ?_
      refine va_get (D := D) (ci := 4) (v := .int (gM_leftBy u)) (C := RX5) (T := TX5) (N := 27) hx hb hts inX5_isLinked_X5 hown hK hP 0 rfl rfl 25 (by decide) (hts (.fieldLink RX5 56 "BlockCacheModel" "leftBy" "I") (by decide +kernel)) (fun _ h9 => h9) rfl dX5_isLinked_21 ?_
      obtain ⟨h_4, hf⟩ := pIn_out hf
      refine va_iald hx hb hK hP 11 0 rfl rfl h_4 dX5_isLinked_24 ?_
      refine lv_aload_n hx hb dX5_isLinked_25 rfl (lv_at hl 0 rfl) ?_
      refine va_get (D := D) (ci := 4) (v := .ref a9) (C := RX5) (T := TX5) (N := 27) hx hb hts inX5_isLinked_X5 hown hK hP 0 rfl rfl 12 (by decide) (hts (.fieldLink RX5 38 "BlockCacheModel" "which" "[I") (by decide +kernel)) (fun _ h9 => h9) rfl dX5_isLinked_26 ?_
      refine lv_iload_n hx hb dX5_isLinked_29 rfl (lv_at hl 1 rfl) ?_
      obtain ⟨h_5, hf⟩ := pIn_out hf
      refine va_iald hx hb hK hP 9 0 rfl rfl h_5 dX5_isLinked_30 ?_
      refine lv_icmp_ne (tgt := 38) hx hb dX5_isLinked_31 (by decide) (fun c_6 => ?_) (fun c_6 => ?_)
      · replace hf := pI_f c_6 hf
        refine lv_iconst (v := 0) hx hb dX5_isLinked_38 (by decide) ?_
        have hz := Option.some.inj hf
        subst hz
        exact gRetZ hx hb hr hlocks hK hP hD hS (by decide) rfl rfl dX5_isLinked_39
      · replace hf := pI_t c_6 hf
        refine lv_iconst (v := 1) hx hb dX5_isLinked_34 (by decide) ?_
        refine lv_goto (tgt := 39) hx hb dX5_isLinked_35 (by decide) ?_
        have hz := Option.some.inj hf
        subst hz
        exact gRetZ hx hb hr hlocks hK hP hD hS (by decide) rfl rfl dX5_isLinked_39
theorem ctX5_isLinked (l : Launch) (D : va_G) (cI : ClassId) (a0 a1 a2 a3 a4 a5 a6 a7 a8 a9 a10 a11 a12 a13 : Nat) (u : TM) (x1 : Int32) (z : Int32) (hz : fX5_isLinked u x1 = some z) : CtI l yX5_isLinked wsX5_isLinked rmX5_isLinked D vwCl [(cI, .int)] [.ref a0, .int x1] (wM a0 a1 a2 a3 a4 a5 a6 a7 a8 a9 a10 a11 a12 a13 cI u) z (wM a0 a1 a2 a3 a4 a5 a6 a7 a8 a9 a10 a11 a12 a13 cI u) :=
  ctI_of (cc := cX5_isLinked) (maxL := 2) (ret := (some .boolean)) (by decide) rfl (Nat.le_of_ble_eq_true rfl) (fun p e s m below meth c A ls C hl hP hD hS => wkX5_isLinked C z _ _ s.heap [] ls hz hP hD hS hl)
abbrev rmX5_leave : Room := { frames := 0, cells := 0, slots := 0, locals := 0 }
theorem inX5_leave_X5 : ∀ w ∈ wsX50, w ∈ wsX5_leave := by decide +kernel
set_option maxRecDepth 100000 in
set_option maxHeartbeats 4000000 in
theorem wkX5_leave_b50 {p : Program} {l : Launch} {e : Env} {s : State} {m : MethodId} {args : Array Value} {below : List Frame} {meth : Method} {c : Code} {D : va_G} {cI : ClassId} {A : Nat → Prop} {a0 a1 a2 a3 a4 a5 a6 a7 a8 a9 a10 a11 a12 a13 : Nat} (C : cxt p s m args meth c cX5_leave none 4 RX5 wsX5_leave D vwCl [(cI, .int)] A) : ∀ (z : TM) (u : TM) (x3 : Int32) (H : Heap) (locs : List Loc) (ls : Array Slot), fX5_leave_b50 u x3 = some z → va_P D vwCl (wM a0 a1 a2 a3 a4 a5 a6 a7 a8 a9 a10 a11 a12 a13 cI u) H → va_D A (wM a0 a1 a2 a3 a4 a5 a6 a7 a8 a9 a10 a11 a12 a13 cI u) → va_S A s.heap H locs → lv_has ls 4 [(0, .ref a0), (3, .int x3)] → W p l e rmX5_leave s m args below meth c H locs 0 0 (MQ below (oV D vwCl [(cI, .int)] A (wM a0 a1 a2 a3 a4 a5 a6 a7 a8 a9 a10 a11 a12 a13 cI z)) args s 0 0 A) (F0 m 50 ls []) := by
  have C0 := C
  obtain ⟨hx, hb, hr, hml, hown, hts, hlocks, hK, hA⟩ := C
  intro z u x3 H locs ls hf hP hD hS hl
  unfold fX5_leave_b50 at hf
  refine lv_aload_n hx hb dX5_leave_50 rfl (lv_at hl 0 rfl) ?_
  refine lv_iload_n hx hb dX5_leave_51 rfl (lv_at hl 1 rfl) ?_
  refine va_put (D := D) (ci := 4) (v := .int x3) (ty := .int) (C := RX5) (T := TX5) (N := 27) hx hb hts inX5_leave_X5 tyX5 tyX5_ok nmX5 hown hK hP hD hS 0 rfl rfl 25 (by decide) (hts (.fieldLink RX5 56 "BlockCacheModel" "leftBy" "I") (by decide +kernel)) (fun _ h9 => h9) rfl (by decide +kernel) rfl rfl (Nat.le_of_ble_eq_true rfl) dX5_leave_52 (fun H locs hP hD hS => ?_)
  obtain ⟨u_1, eu_1, hf⟩ := pLet_out hf
  replace hP : va_P D vwCl (wM a0 a1 a2 a3 a4 a5 a6 a7 a8 a9 a10 a11 a12 a13 cI u_1) H := by rw [eu_1]; exact hP
  replace hD : va_D A (wM a0 a1 a2 a3 a4 a5 a6 a7 a8 a9 a10 a11 a12 a13 cI u_1) := by rw [eu_1]; exact hD
  have hz := Option.some.inj hf
  subst hz
  exact gRetV hx hb hr hlocks hK hP hD hS rfl dX5_leave_55
set_option maxRecDepth 100000 in
set_option maxHeartbeats 4000000 in
theorem wkX5_leave_b26 {p : Program} {l : Launch} {e : Env} {s : State} {m : MethodId} {args : Array Value} {below : List Frame} {meth : Method} {c : Code} {D : va_G} {cI : ClassId} {A : Nat → Prop} {a0 a1 a2 a3 a4 a5 a6 a7 a8 a9 a10 a11 a12 a13 : Nat} (C : cxt p s m args meth c cX5_leave none 4 RX5 wsX5_leave D vwCl [(cI, .int)] A) : ∀ (z : TM) (u : TM) (x2 : Int32) (x3 : Int32) (H : Heap) (locs : List Loc) (ls : Array Slot), fX5_leave_b26 u x2 x3 = some z → va_P D vwCl (wM a0 a1 a2 a3 a4 a5 a6 a7 a8 a9 a10 a11 a12 a13 cI u) H → va_D A (wM a0 a1 a2 a3 a4 a5 a6 a7 a8 a9 a10 a11 a12 a13 cI u) → va_S A s.heap H locs → lv_has ls 4 [(0, .ref a0), (2, .int x2), (3, .int x3)] → W p l e rmX5_leave s m args below meth c H locs 0 0 (MQ below (oV D vwCl [(cI, .int)] A (wM a0 a1 a2 a3 a4 a5 a6 a7 a8 a9 a10 a11 a12 a13 cI z)) args s 0 0 A) (F0 m 26 ls []) := by
  have C0 := C
  obtain ⟨hx, hb, hr, hml, hown, hts, hlocks, hK, hA⟩ := C
  intro z u x2 x3 H locs ls hf hP hD hS hl
  unfold fX5_leave_b26 at hf
  refine lv_aload_n hx hb dX5_leave_26 rfl (lv_at hl 0 rfl) ?_
  refine va_get (D := D) (ci := 4) (v := .ref a10) (C := RX5) (T := TX5) (N := 27) hx hb hts inX5_leave_X5 hown hK hP 0 rfl rfl 13 (by decide) (hts (.fieldLink RX5 41 "BlockCacheModel" "exitAt" "[I") (by decide +kernel)) (fun _ h9 => h9) rfl dX5_leave_27 ?_
  refine lv_iload_n hx hb dX5_leave_30 rfl (lv_at hl 2 rfl) ?_
  obtain ⟨h_1, hf⟩ := pIn_out hf
  refine va_iald hx hb hK hP 10 0 rfl rfl h_1 dX5_leave_31 ?_
  refine lv_iload_n hx hb dX5_leave_32 rfl (lv_at hl 1 rfl) ?_
  refine lv_icmp_eq (tgt := 50) hx hb dX5_leave_33 (by decide) (fun c_2 => ?_) (fun c_2 => ?_)
  · replace hf := pI_t c_2 hf
    exact wkX5_leave_b50 C0 _ _ _ H locs ls hf hP hD hS (lv_sub hl [0, 2] rfl)
  · replace hf := pI_f c_2 hf
    refine lv_aload_n hx hb dX5_leave_36 rfl (lv_at hl 0 rfl) ?_
    refine va_get (D := D) (ci := 4) (v := .ref a10) (C := RX5) (T := TX5) (N := 27) hx hb hts inX5_leave_X5 hown hK hP 0 rfl rfl 13 (by decide) (hts (.fieldLink RX5 41 "BlockCacheModel" "exitAt" "[I") (by decide +kernel)) (fun _ h9 => h9) rfl dX5_leave_37 ?_
    refine lv_iload_n hx hb dX5_leave_40 rfl (lv_at hl 2 rfl) ?_
    refine lv_iload_n hx hb dX5_leave_41 rfl (lv_at hl 1 rfl) ?_
    obtain ⟨h_3, hf⟩ := pIn_out hf
    refine va_iast hx hb hK hP hD hS 10 0 rfl rfl h_3 dX5_leave_42 (fun H locs hP hD hS => ?_)
    obtain ⟨u_4, eu_4, hf⟩ := pLet_out hf
    replace hP : va_P D vwCl (wM a0 a1 a2 a3 a4 a5 a6 a7 a8 a9 a10 a11 a12 a13 cI u_4) H := by rw [eu_4]; exact hP
    replace hD : va_D A (wM a0 a1 a2 a3 a4 a5 a6 a7 a8 a9 a10 a11 a12 a13 cI u_4) := by rw [eu_4]; exact hD
    refine lv_aload_n hx hb dX5_leave_43 rfl (lv_at hl 0 rfl) ?_
    refine va_get (D := D) (ci := 4) (v := .ref a11) (C := RX5) (T := TX5) (N := 27) hx hb hts inX5_leave_X5 hown hK hP 0 rfl rfl 14 (by decide) (hts (.fieldLink RX5 44 "BlockCacheModel" "exitTo" "[I") (by decide +kernel)) (fun _ h9 => h9) rfl dX5_leave_44 ?_
    refine lv_iload_n hx hb dX5_leave_47 rfl (lv_at hl 2 rfl) ?_
    refine lv_iconst (v := (-1)) hx hb dX5_leave_48 (by decide) ?_
    obtain ⟨h_5, hf⟩ := pIn_out hf
    refine va_iast hx hb hK hP hD hS 11 0 rfl rfl h_5 dX5_leave_49 (fun H locs hP hD hS => ?_)
    obtain ⟨u_6, eu_6, hf⟩ := pLet_out hf
    replace hP : va_P D vwCl (wM a0 a1 a2 a3 a4 a5 a6 a7 a8 a9 a10 a11 a12 a13 cI u_6) H := by rw [eu_6]; exact hP
    replace hD : va_D A (wM a0 a1 a2 a3 a4 a5 a6 a7 a8 a9 a10 a11 a12 a13 cI u_6) := by rw [eu_6]; exact hD
    exact wkX5_leave_b50 C0 _ _ _ H locs ls hf hP hD hS (lv_sub hl [0, 2] rfl)
set_option maxRecDepth 100000 in
set_option maxHeartbeats 4000000 in
theorem wkX5_leave {p : Program} {l : Launch} {e : Env} {s : State} {m : MethodId} {args : Array Value} {below : List Frame} {meth : Method} {c : Code} {D : va_G} {cI : ClassId} {A : Nat → Prop} {a0 a1 a2 a3 a4 a5 a6 a7 a8 a9 a10 a11 a12 a13 : Nat} (C : cxt p s m args meth c cX5_leave none 4 RX5 wsX5_leave D vwCl [(cI, .int)] A) : ∀ (z : TM) (u : TM) (x1 : Int32) (x2 : Int32) (H : Heap) (locs : List Loc) (ls : Array Slot), fX5_leave u x1 x2 = some z → va_P D vwCl (wM a0 a1 a2 a3 a4 a5 a6 a7 a8 a9 a10 a11 a12 a13 cI u) H → va_D A (wM a0 a1 a2 a3 a4 a5 a6 a7 a8 a9 a10 a11 a12 a13 cI u) → va_S A s.heap H locs → lv_has ls 4 [(0, .ref a0), (1, .int x1), (2, .int x2)] → W p l e rmX5_leave s m args below meth c H locs 0 0 (MQ below (oV D vwCl [(cI, .int)] A (wM a0 a1 a2 a3 a4 a5 a6 a7 a8 a9 a10 a11 a12 a13 cI z)) args s 0 0 A) (F0 m 0 ls []) := by
  have C0 := C
  obtain ⟨hx, hb, hr, hml, hown, hts, hlocks, hK, hA⟩ := C
  intro z u x1 x2 H locs ls hf hP hD hS hl
  unfold fX5_leave at hf
  refine lv_iconst (v := 2) hx hb dX5_leave_0 (by decide) ?_
  refine lv_iload_n hx hb dX5_leave_1 rfl (lv_at hl 1 rfl) ?_
  refine lv_imul hx hb dX5_leave_2 ?_
  obtain ⟨x_1, ex_1, hf⟩ := pLet_out hf
  refine gTop ex_1 ?_
  refine lv_istore_n (lv' := [(3, .int x_1), (0, .ref a0), (1, .int x1), (2, .int x2)]) hx hb dX5_leave_3 rfl hl (by decide) rfl (fun ls hl => ?_)
  refine lv_aload_n hx hb dX5_leave_4 rfl (lv_at hl 1 rfl) ?_
  refine va_get (D := D) (ci := 4) (v := .ref a10) (C := RX5) (T := TX5) (N := 27) hx hb hts inX5_leave_X5 hown hK hP 0 rfl rfl 13 (by decide) (hts (.fieldLink RX5 41 "BlockCacheModel" "exitAt" "[I") (by decide +kernel)) (fun _ h9 => h9) rfl dX5_leave_5 ?_
  refine lv_iload_n hx hb dX5_leave_8 rfl (lv_at hl 0 rfl) ?_
  obtain ⟨h_2, hf⟩ := pIn_out hf
  refine va_iald hx hb hK hP 10 0 rfl rfl h_2 dX5_leave_9 ?_
  refine lv_if_lt (tgt := 26) hx hb dX5_leave_10 (by decide) (fun c_3 => ?_) (fun c_3 => ?_)
  · replace hf := pI_t c_3 hf
    exact wkX5_leave_b26 C0 _ _ _ _ H locs ls hf hP hD hS (lv_sub hl [1, 3, 0] rfl)
  · replace hf := pI_f c_3 hf
    refine lv_aload_n hx hb dX5_leave_13 rfl (lv_at hl 1 rfl) ?_
    refine va_get (D := D) (ci := 4) (v := .ref a10) (C := RX5) (T := TX5) (N := 27) hx hb hts inX5_leave_X5 hown hK hP 0 rfl rfl 13 (by decide) (hts (.fieldLink RX5 41 "BlockCacheModel" "exitAt" "[I") (by decide +kernel)) (fun _ h9 => h9) rfl dX5_leave_14 ?_
    refine lv_iload_n hx hb dX5_leave_17 rfl (lv_at hl 0 rfl) ?_
    obtain ⟨h_4, hf⟩ := pIn_out hf
    refine va_iald hx hb hK hP 10 0 rfl rfl h_4 dX5_leave_18 ?_
    refine lv_iload_n hx hb dX5_leave_19 rfl (lv_at hl 3 rfl) ?_
    refine lv_icmp_eq (tgt := 26) hx hb dX5_leave_20 (by decide) (fun c_5 => ?_) (fun c_5 => ?_)
    · replace hf := pI_t c_5 hf
      exact wkX5_leave_b26 C0 _ _ _ _ H locs ls hf hP hD hS (lv_sub hl [1, 3, 0] rfl)
    · replace hf := pI_f c_5 hf
      obtain ⟨x_6, ex_6, hf⟩ := pLet_out hf
      refine lv_iinc (v := x_6) (lv' := [(3, .int x_6), (0, .ref a0), (1, .int x1), (2, .int x2)]) hx hb dX5_leave_23 hl (k := 0) rfl (by rw [ex_6]; rfl) (by decide) rfl (fun ls hl => ?_)
      exact wkX5_leave_b26 C0 _ _ _ _ H locs ls hf hP hD hS (lv_sub hl [1, 3, 0] rfl)
theorem ctX5_leave (l : Launch) (D : va_G) (cI : ClassId) (a0 a1 a2 a3 a4 a5 a6 a7 a8 a9 a10 a11 a12 a13 : Nat) (u : TM) (x1 : Int32) (x2 : Int32) (z : TM) (hz : fX5_leave u x1 x2 = some z) : CtV l yX5_leave wsX5_leave rmX5_leave D vwCl [(cI, .int)] [.ref a0, .int x1, .int x2] (wM a0 a1 a2 a3 a4 a5 a6 a7 a8 a9 a10 a11 a12 a13 cI u) (wM a0 a1 a2 a3 a4 a5 a6 a7 a8 a9 a10 a11 a12 a13 cI z) :=
  ctV_of (cc := cX5_leave) (maxL := 4) (ret := none) (by decide) rfl (Nat.le_of_ble_eq_true rfl) (fun p e s m below meth c A ls C hl hP hD hS => wkX5_leave C z _ _ _ s.heap [] ls hz hP hD hS hl)
abbrev rmX5_runBlock : Room := { frames := 6, cells := 0, slots := 0, locals := 139 }
theorem inX5_runBlock_X5 : ∀ w ∈ wsX50, w ∈ wsX5_runBlock := by decide +kernel
set_option maxRecDepth 100000 in
set_option maxHeartbeats 4000000 in
theorem wkX5_runBlock_b104 {p : Program} {l : Launch} {e : Env} {s : State} {m : MethodId} {args : Array Value} {below : List Frame} {meth : Method} {c : Code} {D : va_G} {cI : ClassId} {A : Nat → Prop} {a0 a1 a2 a3 a4 a5 a6 a7 a8 a9 a10 a11 a12 a13 : Nat} (C : cxt p s m args meth c cX5_runBlock none 7 RX5 wsX5_runBlock D vwCl [(cI, .int)] A) {K59 : TM → Int32 → Int32 → Int32 → Int32 → Int32 → Int32 → Option (TM)} (hK59 : ∀ (z : TM) (u : TM) (x1 : Int32) (x2 : Int32) (x3 : Int32) (x4 : Int32) (x5 : Int32) (x6 : Int32) (H : Heap) (locs : List Loc) (ls : Array Slot), K59 u x1 x2 x3 x4 x5 x6 = some z → va_P D vwCl (wM a0 a1 a2 a3 a4 a5 a6 a7 a8 a9 a10 a11 a12 a13 cI u) H → va_D A (wM a0 a1 a2 a3 a4 a5 a6 a7 a8 a9 a10 a11 a12 a13 cI u) → va_S A s.heap H locs → lv_has ls 7 [(0, .ref a0), (1, .int x1), (2, .int x2), (3, .int x3), (4, .int x4), (5, .int x5), (6, .int x6)] → W p l e rmX5_runBlock s m args below meth c H locs 0 0 (MQ below (oV D vwCl [(cI, .int)] A (wM a0 a1 a2 a3 a4 a5 a6 a7 a8 a9 a10 a11 a12 a13 cI z)) args s 0 0 A) (F0 m 59 ls [])) : ∀ (z : TM) (u : TM) (x1 : Int32) (x2 : Int32) (x3 : Int32) (x5 : Int32) (x6 : Int32) (y0 : Int32) (H : Heap) (locs : List Loc) (ls : Array Slot), fX5_runBlock_b104 K59 u x1 x2 x3 x5 x6 y0 = some z → va_P D vwCl (wM a0 a1 a2 a3 a4 a5 a6 a7 a8 a9 a10 a11 a12 a13 cI u) H → va_D A (wM a0 a1 a2 a3 a4 a5 a6 a7 a8 a9 a10 a11 a12 a13 cI u) → va_S A s.heap H locs → lv_has ls 7 [(0, .ref a0), (1, .int x1), (2, .int x2), (3, .int x3), (5, .int x5), (6, .int x6)] → W p l e rmX5_runBlock s m args below meth c H locs 0 0 (MQ below (oV D vwCl [(cI, .int)] A (wM a0 a1 a2 a3 a4 a5 a6 a7 a8 a9 a10 a11 a12 a13 cI z)) args s 0 0 A) (F0 m 104 ls [.int y0]) := by
  have C0 := C
  obtain ⟨hx, hb, hr, hml, hown, hts, hlocks, hK, hA⟩ := C
  intro z u x1 x2 x3 x5 x6 y0 H locs ls hf hP hD hS hl
  unfold fX5_runBlock_b104 at hf
  refine lv_istore (lv' := [(4, .int y0), (0, .ref a0), (1, .int x1), (2, .int x2), (3, .int x3), (5, .int x5), (6, .int x6)]) hx hb dX5_runBlock_104 hl (by decide) rfl (fun ls hl => ?_)
  obtain ⟨x_1, ex_1, hf⟩ := pLet_out hf
  refine lv_iinc (v := x_1) (lv' := [(6, .int x_1), (4, .int y0), (0, .ref a0), (1, .int x1), (2, .int x2), (3, .int x3), (5, .int x5)]) hx hb dX5_runBlock_106 hl (k := 6) rfl (by rw [ex_1]; rfl) (by decide) rfl (fun ls hl => ?_)
  refine lv_goto (tgt := 59) hx hb dX5_runBlock_109 (by decide) ?_
  exact hK59 _ _ _ _ _ _ _ _ H locs ls hf hP hD hS (lv_sub hl [2, 3, 4, 5, 1, 6, 0] rfl)
set_option maxRecDepth 100000 in
set_option maxHeartbeats 4000000 in
theorem wkX5_runBlock_b103 {p : Program} {l : Launch} {e : Env} {s : State} {m : MethodId} {args : Array Value} {below : List Frame} {meth : Method} {c : Code} {D : va_G} {cI : ClassId} {A : Nat → Prop} {a0 a1 a2 a3 a4 a5 a6 a7 a8 a9 a10 a11 a12 a13 : Nat} (C : cxt p s m args meth c cX5_runBlock none 7 RX5 wsX5_runBlock D vwCl [(cI, .int)] A) {K59 : TM → Int32 → Int32 → Int32 → Int32 → Int32 → Int32 → Option (TM)} (hK59 : ∀ (z : TM) (u : TM) (x1 : Int32) (x2 : Int32) (x3 : Int32) (x4 : Int32) (x5 : Int32) (x6 : Int32) (H : Heap) (locs : List Loc) (ls : Array Slot), K59 u x1 x2 x3 x4 x5 x6 = some z → va_P D vwCl (wM a0 a1 a2 a3 a4 a5 a6 a7 a8 a9 a10 a11 a12 a13 cI u) H → va_D A (wM a0 a1 a2 a3 a4 a5 a6 a7 a8 a9 a10 a11 a12 a13 cI u) → va_S A s.heap H locs → lv_has ls 7 [(0, .ref a0), (1, .int x1), (2, .int x2), (3, .int x3), (4, .int x4), (5, .int x5), (6, .int x6)] → W p l e rmX5_runBlock s m args below meth c H locs 0 0 (MQ below (oV D vwCl [(cI, .int)] A (wM a0 a1 a2 a3 a4 a5 a6 a7 a8 a9 a10 a11 a12 a13 cI z)) args s 0 0 A) (F0 m 59 ls [])) : ∀ (z : TM) (u : TM) (x1 : Int32) (x2 : Int32) (x3 : Int32) (x5 : Int32) (x6 : Int32) (H : Heap) (locs : List Loc) (ls : Array Slot), fX5_runBlock_b103 K59 u x1 x2 x3 x5 x6 = some z → va_P D vwCl (wM a0 a1 a2 a3 a4 a5 a6 a7 a8 a9 a10 a11 a12 a13 cI u) H → va_D A (wM a0 a1 a2 a3 a4 a5 a6 a7 a8 a9 a10 a11 a12 a13 cI u) → va_S A s.heap H locs → lv_has ls 7 [(0, .ref a0), (1, .int x1), (2, .int x2), (3, .int x3), (5, .int x5), (6, .int x6)] → W p l e rmX5_runBlock s m args below meth c H locs 0 0 (MQ below (oV D vwCl [(cI, .int)] A (wM a0 a1 a2 a3 a4 a5 a6 a7 a8 a9 a10 a11 a12 a13 cI z)) args s 0 0 A) (F0 m 103 ls []) := by
  have C0 := C
  obtain ⟨hx, hb, hr, hml, hown, hts, hlocks, hK, hA⟩ := C
  intro z u x1 x2 x3 x5 x6 H locs ls hf hP hD hS hl
  unfold fX5_runBlock_b103 at hf
  refine lv_iconst (v := 0) hx hb dX5_runBlock_103 (by decide) ?_
  exact wkX5_runBlock_b104 C0 hK59 _ _ _ _ _ _ _ _ H locs ls hf hP hD hS (lv_sub hl [0, 1, 2, 3, 4, 5] rfl)
set_option maxRecDepth 100000 in
set_option maxHeartbeats 4000000 in
theorem wkX5_runBlock_b112 {p : Program} {l : Launch} {e : Env} {s : State} {m : MethodId} {args : Array Value} {below : List Frame} {meth : Method} {c : Code} {D : va_G} {cI : ClassId} {A : Nat → Prop} {a0 a1 a2 a3 a4 a5 a6 a7 a8 a9 a10 a11 a12 a13 : Nat} (C : cxt p s m args meth c cX5_runBlock none 7 RX5 wsX5_runBlock D vwCl [(cI, .int)] A) : ∀ (z : TM) (u : TM) (x1 : Int32) (x4 : Int32) (x5 : Int32) (H : Heap) (locs : List Loc) (ls : Array Slot), fX5_runBlock_b112 u x1 x4 x5 = some z → va_P D vwCl (wM a0 a1 a2 a3 a4 a5 a6 a7 a8 a9 a10 a11 a12 a13 cI u) H → va_D A (wM a0 a1 a2 a3 a4 a5 a6 a7 a8 a9 a10 a11 a12 a13 cI u) → va_S A s.heap H locs → lv_has ls 7 [(0, .ref a0), (1, .int x1), (4, .int x4), (5, .int x5)] → W p l e rmX5_runBlock s m args below meth c H locs 0 0 (MQ below (oV D vwCl [(cI, .int)] A (wM a0 a1 a2 a3 a4 a5 a6 a7 a8 a9 a10 a11 a12 a13 cI z)) args s 0 0 A) (F0 m 112 ls []) := by
  have C0 := C
  obtain ⟨hx, hb, hr, hml, hown, hts, hlocks, hK, hA⟩ := C
  intro z u x1 x4 x5 H locs ls hf hP hD hS hl
  unfold fX5_runBlock_b112 at hf
  refine lv_iload hx hb dX5_runBlock_112 (lv_at hl 2 rfl) ?_
  refine lv_if_eq (tgt := 142) hx hb dX5_runBlock_114 (by decide) (fun c_1 => ?_) (fun c_1 => ?_)
  · replace hf := pI_t c_1 hf
    have hz := Option.some.inj hf
    subst hz
    exact gRetV hx hb hr hlocks hK hP hD hS rfl dX5_runBlock_142
  · replace hf := pI_f c_1 hf
    refine lv_iload hx hb dX5_runBlock_117 (lv_at hl 3 rfl) ?_
    refine lv_bipush (v := 25) hx hb dX5_runBlock_119 (by decide) ?_
    refine lv_icmp_eq (tgt := 142) hx hb dX5_runBlock_121 (by decide) (fun c_2 => ?_) (fun c_2 => ?_)
    · replace hf := pI_t c_2 hf
      have hz := Option.some.inj hf
      subst hz
      exact gRetV hx hb hr hlocks hK hP hD hS rfl dX5_runBlock_142
    · replace hf := pI_f c_2 hf
      refine lv_iload hx hb dX5_runBlock_124 (lv_at hl 3 rfl) ?_
      refine lv_iconst (v := 1) hx hb dX5_runBlock_126 (by decide) ?_
      refine lv_icmp_eq (tgt := 142) hx hb dX5_runBlock_127 (by decide) (fun c_3 => ?_) (fun c_3 => ?_)
      · replace hf := pI_t c_3 hf
        have hz := Option.some.inj hf
        subst hz
        exact gRetV hx hb hr hlocks hK hP hD hS rfl dX5_runBlock_142
      · replace hf := pI_f c_3 hf
        refine lv_aload_n hx hb dX5_runBlock_130 rfl (lv_at hl 0 rfl) ?_
        refine lv_iload_n hx hb dX5_runBlock_131 rfl (lv_at hl 1 rfl) ?_
        refine lv_aload_n hx hb dX5_runBlock_132 rfl (lv_at hl 0 rfl) ?_
        refine va_get (D := D) (ci := 4) (v := .ref a2) (C := RX5) (T := TX5) (N := 27) hx hb hts inX5_runBlock_X5 hown hK hP 0 rfl rfl 2 (by decide) (hts (.fieldLink RX5 13 "BlockCacheModel" "reg" "[I") (by decide +kernel)) (fun _ h9 => h9) rfl dX5_runBlock_133 ?_
        refine lv_bipush (v := 9) hx hb dX5_runBlock_136 (by decide) ?_
        obtain ⟨h_4, hf⟩ := pIn_out hf
        refine va_iald hx hb hK hP 2 0 rfl rfl h_4 dX5_runBlock_138 ?_
        obtain ⟨z_5, hz_5, hf⟩ := pB_out hf
        refine gV (w' := (wM a0 a1 a2 a3 a4 a5 a6 a7 a8 a9 a10 a11 a12 a13 cI z_5)) (va_runV (As := [.int x1, .int ((gM_reg u) ((9 : Int32)).toNatClampNeg)]) (rest := []) ⟨hx, hb, hml, hown, hts⟩ (ctX5_leave l D cI a0 a1 a2 a3 a4 a5 a6 a7 a8 a9 a10 a11 a12 a13 u x1 ((gM_reg u) ((9 : Int32)).toNatClampNeg) z_5 hz_5 H.size) (cwV 2 hts gX5_runBlock_X5_leave rfl rfl rfl (by decide +kernel) ⟨Nat.le_of_ble_eq_true rfl, Nat.le_of_ble_eq_true rfl⟩) (gPreV (ci := 4) (C := RX5) (T := TX5) (N := 27) hP hK hD [0, 1, 2, 3, 4, 5, 6, 7, 8, 9, 10, 11, 12, 13] (by decide) rfl 0 rfl rfl) rfl rfl hl.1 rfl (lv_room (Nat.le_of_ble_eq_true rfl)) dX5_runBlock_139 ⟨Nat.le_of_ble_eq_true rfl, Nat.le_of_ble_eq_true rfl⟩) hP hD hS hA [0, 1, 2, 3, 4, 5, 6, 7, 8, 9, 10, 11, 12, 13] [] [0, 1, 2, 3, 4, 5, 6, 7, 8, 9, 10, 11, 12, 13] rfl rfl (by decide) (by decide) rfl (by decide) (fun H locs hP hD hS => ?_)
        have hz := Option.some.inj hf
        subst hz
        exact gRetV hx hb hr hlocks hK hP hD hS rfl dX5_runBlock_142
set_option maxRecDepth 100000 in
set_option maxHeartbeats 4000000 in
theorem wkX5_runBlock_b59 {p : Program} {l : Launch} {e : Env} {s : State} {m : MethodId} {args : Array Value} {below : List Frame} {meth : Method} {c : Code} {D : va_G} {cI : ClassId} {A : Nat → Prop} {a0 a1 a2 a3 a4 a5 a6 a7 a8 a9 a10 a11 a12 a13 : Nat} (C : cxt p s m args meth c cX5_runBlock none 7 RX5 wsX5_runBlock D vwCl [(cI, .int)] A) : ∀ (fu : Nat) (z : TM) (u : TM) (x1 : Int32) (x2 : Int32) (x3 : Int32) (x4 : Int32) (x5 : Int32) (x6 : Int32) (H : Heap) (locs : List Loc) (ls : Array Slot), fX5_runBlock_b59 fu u x1 x2 x3 x4 x5 x6 = some z → va_P D vwCl (wM a0 a1 a2 a3 a4 a5 a6 a7 a8 a9 a10 a11 a12 a13 cI u) H → va_D A (wM a0 a1 a2 a3 a4 a5 a6 a7 a8 a9 a10 a11 a12 a13 cI u) → va_S A s.heap H locs → lv_has ls 7 [(0, .ref a0), (1, .int x1), (2, .int x2), (3, .int x3), (4, .int x4), (5, .int x5), (6, .int x6)] → W p l e rmX5_runBlock s m args below meth c H locs 0 0 (MQ below (oV D vwCl [(cI, .int)] A (wM a0 a1 a2 a3 a4 a5 a6 a7 a8 a9 a10 a11 a12 a13 cI z)) args s 0 0 A) (F0 m 59 ls []) := by
  have C0 := C
  obtain ⟨hx, hb, hr, hml, hown, hts, hlocks, hK, hA⟩ := C
  intro fu
  induction fu with
  | zero =>
    intro z u x1 x2 x3 x4 x5 x6 H locs ls hf hP hD hS hl
    cases hf
  | succ nn ih =>
    intro z u x1 x2 x3 x4 x5 x6 H locs ls hf hP hD hS hl
    simp only [fX5_runBlock_b59] at hf
    refine lv_iload hx hb dX5_runBlock_59 (lv_at hl 6 rfl) ?_
    refine lv_iload_n hx hb dX5_runBlock_61 rfl (lv_at hl 3 rfl) ?_
    refine lv_icmp_ge (tgt := 112) hx hb dX5_runBlock_62 (by decide) (fun c_1 => ?_) (fun c_1 => ?_)
    · replace hf := pI_t c_1 hf
      exact wkX5_runBlock_b112 C0 _ _ _ _ _ H locs ls hf hP hD hS (lv_sub hl [0, 1, 4, 5] rfl)
    · replace hf := pI_f c_1 hf
      refine lv_iload hx hb dX5_runBlock_65 (lv_at hl 4 rfl) ?_
      refine lv_if_eq (tgt := 112) hx hb dX5_runBlock_67 (by decide) (fun c_2 => ?_) (fun c_2 => ?_)
      · replace hf := pI_t c_2 hf
        exact wkX5_runBlock_b112 C0 _ _ _ _ _ H locs ls hf hP hD hS (lv_sub hl [0, 1, 4, 5] rfl)
      · replace hf := pI_f c_2 hf
        refine lv_aload_n hx hb dX5_runBlock_70 rfl (lv_at hl 0 rfl) ?_
        obtain ⟨z_3, hz_3, hf⟩ := pB_out hf
        refine gV (w' := (wM a0 a1 a2 a3 a4 a5 a6 a7 a8 a9 a10 a11 a12 a13 cI z_3)) (va_runV (As := []) (rest := []) ⟨hx, hb, hml, hown, hts⟩ (ctX5_step l D cI a0 a1 a2 a3 a4 a5 a6 a7 a8 a9 a10 a11 a12 a13 u z_3 hz_3 H.size) (cwV 0 hts gX5_runBlock_X5_step rfl rfl rfl (by decide +kernel) ⟨Nat.le_of_ble_eq_true rfl, Nat.le_of_ble_eq_true rfl⟩) (gPreV (ci := 4) (C := RX5) (T := TX5) (N := 27) hP hK hD [0, 1, 2, 3, 4, 5, 6, 7, 8, 9, 10, 11, 12, 13] (by decide) rfl 0 rfl rfl) rfl rfl hl.1 rfl (lv_room (Nat.le_of_ble_eq_true rfl)) dX5_runBlock_71 ⟨Nat.le_of_ble_eq_true rfl, Nat.le_of_ble_eq_true rfl⟩) hP hD hS hA [0, 1, 2, 3, 4, 5, 6, 7, 8, 9, 10, 11, 12, 13] [] [0, 1, 2, 3, 4, 5, 6, 7, 8, 9, 10, 11, 12, 13] rfl rfl (by decide) (by decide) rfl (by decide) (fun H locs hP hD hS => ?_)
        refine lv_aload_n hx hb dX5_runBlock_74 rfl (lv_at hl 0 rfl) ?_
        refine va_get (D := D) (ci := 4) (v := .int (gM_kind z_3)) (C := RX5) (T := TX5) (N := 27) hx hb hts inX5_runBlock_X5 hown hK hP 0 rfl rfl 18 (by decide) (hts (.fieldLink RX5 66 "BlockCacheModel" "kind" "I") (by decide +kernel)) (fun _ h9 => h9) rfl dX5_runBlock_75 ?_
        obtain ⟨x_4, ex_4, hf⟩ := pLet_out hf
        refine gTop ex_4 ?_
        refine lv_istore (lv' := [(5, .int x_4), (0, .ref a0), (1, .int x1), (2, .int x2), (3, .int x3), (4, .int x4), (6, .int x6)]) hx hb dX5_runBlock_78 hl (by decide) rfl (fun ls hl => ?_)
        refine lv_aload_n hx hb dX5_runBlock_80 rfl (lv_at hl 1 rfl) ?_
        refine va_get (D := D) (ci := 4) (v := .ref a6) (C := RX5) (T := TX5) (N := 27) hx hb hts inX5_runBlock_X5 hown hK hP 0 rfl rfl 9 (by decide) (hts (.fieldLink RX5 29 "BlockCacheModel" "size" "[I") (by decide +kernel)) (fun _ h9 => h9) rfl dX5_runBlock_81 ?_
        refine lv_iload_n hx hb dX5_runBlock_84 rfl (lv_at hl 2 rfl) ?_
        obtain ⟨h_5, hf⟩ := pIn_out hf
        refine va_iald hx hb hK hP 6 0 rfl rfl h_5 dX5_runBlock_85 ?_
        refine lv_if_le (tgt := 103) hx hb dX5_runBlock_86 (by decide) (fun c_6 => ?_) (fun c_6 => ?_)
        · replace hf := pI_t c_6 hf
          exact wkX5_runBlock_b103 C0 ih _ _ _ _ _ _ _ H locs ls hf hP hD hS (lv_sub hl [1, 2, 3, 4, 0, 6] rfl)
        · replace hf := pI_f c_6 hf
          refine lv_aload_n hx hb dX5_runBlock_89 rfl (lv_at hl 1 rfl) ?_
          refine va_get (D := D) (ci := 4) (v := .ref a9) (C := RX5) (T := TX5) (N := 27) hx hb hts inX5_runBlock_X5 hown hK hP 0 rfl rfl 12 (by decide) (hts (.fieldLink RX5 38 "BlockCacheModel" "which" "[I") (by decide +kernel)) (fun _ h9 => h9) rfl dX5_runBlock_90 ?_
          refine lv_iload_n hx hb dX5_runBlock_93 rfl (lv_at hl 2 rfl) ?_
          obtain ⟨h_7, hf⟩ := pIn_out hf
          refine va_iald hx hb hK hP 9 0 rfl rfl h_7 dX5_runBlock_94 ?_
          refine lv_iload_n hx hb dX5_runBlock_95 rfl (lv_at hl 3 rfl) ?_
          refine lv_icmp_ne (tgt := 103) hx hb dX5_runBlock_96 (by decide) (fun c_8 => ?_) (fun c_8 => ?_)
          · replace hf := pI_f c_8 hf
            exact wkX5_runBlock_b103 C0 ih _ _ _ _ _ _ _ H locs ls hf hP hD hS (lv_sub hl [1, 2, 3, 4, 0, 6] rfl)
          · replace hf := pI_t c_8 hf
            refine lv_iconst (v := 1) hx hb dX5_runBlock_99 (by decide) ?_
            refine lv_goto (tgt := 104) hx hb dX5_runBlock_100 (by decide) ?_
            exact wkX5_runBlock_b104 C0 ih _ _ _ _ _ _ _ _ H locs ls hf hP hD hS (lv_sub hl [1, 2, 3, 4, 0, 6] rfl)
set_option maxRecDepth 100000 in
set_option maxHeartbeats 4000000 in
theorem wkX5_runBlock_b38 {p : Program} {l : Launch} {e : Env} {s : State} {m : MethodId} {args : Array Value} {below : List Frame} {meth : Method} {c : Code} {D : va_G} {cI : ClassId} {A : Nat → Prop} {a0 a1 a2 a3 a4 a5 a6 a7 a8 a9 a10 a11 a12 a13 : Nat} (C : cxt p s m args meth c cX5_runBlock none 7 RX5 wsX5_runBlock D vwCl [(cI, .int)] A) : ∀ (z : TM) (u : TM) (x1 : Int32) (x2 : Int32) (H : Heap) (locs : List Loc) (ls : Array Slot), fX5_runBlock_b38 u x1 x2 = some z → va_P D vwCl (wM a0 a1 a2 a3 a4 a5 a6 a7 a8 a9 a10 a11 a12 a13 cI u) H → va_D A (wM a0 a1 a2 a3 a4 a5 a6 a7 a8 a9 a10 a11 a12 a13 cI u) → va_S A s.heap H locs → lv_has ls 7 [(0, .ref a0), (1, .int x1), (2, .int x2)] → W p l e rmX5_runBlock s m args below meth c H locs 0 0 (MQ below (oV D vwCl [(cI, .int)] A (wM a0 a1 a2 a3 a4 a5 a6 a7 a8 a9 a10 a11 a12 a13 cI z)) args s 0 0 A) (F0 m 38 ls []) := by
  have C0 := C
  obtain ⟨hx, hb, hr, hml, hown, hts, hlocks, hK, hA⟩ := C
  intro z u x1 x2 H locs ls hf hP hD hS hl
  unfold fX5_runBlock_b38 at hf
  refine lv_aload_n hx hb dX5_runBlock_38 rfl (lv_at hl 0 rfl) ?_
  refine lv_iconst (v := (-1)) hx hb dX5_runBlock_39 (by decide) ?_
  refine va_put (D := D) (ci := 4) (v := .int (-1)) (ty := .int) (C := RX5) (T := TX5) (N := 27) hx hb hts inX5_runBlock_X5 tyX5 tyX5_ok nmX5 hown hK hP hD hS 0 rfl rfl 25 (by decide) (hts (.fieldLink RX5 56 "BlockCacheModel" "leftBy" "I") (by decide +kernel)) (fun _ h9 => h9) rfl (by decide +kernel) rfl rfl (Nat.le_of_ble_eq_true rfl) dX5_runBlock_40 (fun H locs hP hD hS => ?_)
  obtain ⟨u_1, eu_1, hf⟩ := pLet_out hf
  replace hP : va_P D vwCl (wM a0 a1 a2 a3 a4 a5 a6 a7 a8 a9 a10 a11 a12 a13 cI u_1) H := by rw [eu_1]; exact hP
  replace hD : va_D A (wM a0 a1 a2 a3 a4 a5 a6 a7 a8 a9 a10 a11 a12 a13 cI u_1) := by rw [eu_1]; exact hD
  refine lv_aload_n hx hb dX5_runBlock_43 rfl (lv_at hl 0 rfl) ?_
  refine va_get (D := D) (ci := 4) (v := .ref a7) (C := RX5) (T := TX5) (N := 27) hx hb hts inX5_runBlock_X5 hown hK hP 0 rfl rfl 10 (by decide) (hts (.fieldLink RX5 32 "BlockCacheModel" "length" "[I") (by decide +kernel)) (fun _ h9 => h9) rfl dX5_runBlock_44 ?_
  refine lv_iload_n hx hb dX5_runBlock_47 rfl (lv_at hl 1 rfl) ?_
  obtain ⟨h_2, hf⟩ := pIn_out hf
  refine va_iald hx hb hK hP 7 0 rfl rfl h_2 dX5_runBlock_48 ?_
  obtain ⟨x_3, ex_3, hf⟩ := pLet_out hf
  refine gTop ex_3 ?_
  refine lv_istore_n (lv' := [(3, .int x_3), (0, .ref a0), (1, .int x1), (2, .int x2)]) hx hb dX5_runBlock_49 rfl hl (by decide) rfl (fun ls hl => ?_)
  refine lv_iconst (v := 1) hx hb dX5_runBlock_50 (by decide) ?_
  refine lv_istore (lv' := [(4, .int 1), (3, .int x_3), (0, .ref a0), (1, .int x1), (2, .int x2)]) hx hb dX5_runBlock_51 hl (by decide) rfl (fun ls hl => ?_)
  refine lv_iconst (v := 0) hx hb dX5_runBlock_53 (by decide) ?_
  refine lv_istore (lv' := [(5, .int 0), (4, .int 1), (3, .int x_3), (0, .ref a0), (1, .int x1), (2, .int x2)]) hx hb dX5_runBlock_54 hl (by decide) rfl (fun ls hl => ?_)
  refine lv_iconst (v := 0) hx hb dX5_runBlock_56 (by decide) ?_
  refine lv_istore (lv' := [(6, .int 0), (5, .int 0), (4, .int 1), (3, .int x_3), (0, .ref a0), (1, .int x1), (2, .int x2)]) hx hb dX5_runBlock_57 hl (by decide) rfl (fun ls hl => ?_)
  exact wkX5_runBlock_b59 C0 fuelX5_runBlock_59 _ _ _ _ _ _ _ _ H locs ls hf hP hD hS (lv_sub hl [4, 5, 6, 3, 2, 1, 0] rfl)
set_option maxRecDepth 100000 in
set_option maxHeartbeats 4000000 in
theorem wkX5_runBlock {p : Program} {l : Launch} {e : Env} {s : State} {m : MethodId} {args : Array Value} {below : List Frame} {meth : Method} {c : Code} {D : va_G} {cI : ClassId} {A : Nat → Prop} {a0 a1 a2 a3 a4 a5 a6 a7 a8 a9 a10 a11 a12 a13 : Nat} (C : cxt p s m args meth c cX5_runBlock none 7 RX5 wsX5_runBlock D vwCl [(cI, .int)] A) : ∀ (z : TM) (u : TM) (x1 : Int32) (H : Heap) (locs : List Loc) (ls : Array Slot), fX5_runBlock u x1 = some z → va_P D vwCl (wM a0 a1 a2 a3 a4 a5 a6 a7 a8 a9 a10 a11 a12 a13 cI u) H → va_D A (wM a0 a1 a2 a3 a4 a5 a6 a7 a8 a9 a10 a11 a12 a13 cI u) → va_S A s.heap H locs → lv_has ls 7 [(0, .ref a0), (1, .int x1)] → W p l e rmX5_runBlock s m args below meth c H locs 0 0 (MQ below (oV D vwCl [(cI, .int)] A (wM a0 a1 a2 a3 a4 a5 a6 a7 a8 a9 a10 a11 a12 a13 cI z)) args s 0 0 A) (F0 m 0 ls []) := by
  have C0 := C
  obtain ⟨hx, hb, hr, hml, hown, hts, hlocks, hK, hA⟩ := C
  intro z u x1 H locs ls hf hP hD hS hl
  unfold fX5_runBlock at hf
  refine lv_aload_n hx hb dX5_runBlock_0 rfl (lv_at hl 0 rfl) ?_
  refine va_get (D := D) (ci := 4) (v := .ref a9) (C := RX5) (T := TX5) (N := 27) hx hb hts inX5_runBlock_X5 hown hK hP 0 rfl rfl 12 (by decide) (hts (.fieldLink RX5 38 "BlockCacheModel" "which" "[I") (by decide +kernel)) (fun _ h9 => h9) rfl dX5_runBlock_1 ?_
  refine lv_iload_n hx hb dX5_runBlock_4 rfl (lv_at hl 1 rfl) ?_
  obtain ⟨h_1, hf⟩ := pIn_out hf
  refine va_iald hx hb hK hP 9 0 rfl rfl h_1 dX5_runBlock_5 ?_
  obtain ⟨x_2, ex_2, hf⟩ := pLet_out hf
  refine gTop ex_2 ?_
  refine lv_istore_n (lv' := [(2, .int x_2), (0, .ref a0), (1, .int x1)]) hx hb dX5_runBlock_6 rfl hl (by decide) rfl (fun ls hl => ?_)
  refine lv_aload_n hx hb dX5_runBlock_7 rfl (lv_at hl 1 rfl) ?_
  refine va_get (D := D) (ci := 4) (v := .int (gM_leftBy u)) (C := RX5) (T := TX5) (N := 27) hx hb hts inX5_runBlock_X5 hown hK hP 0 rfl rfl 25 (by decide) (hts (.fieldLink RX5 56 "BlockCacheModel" "leftBy" "I") (by decide +kernel)) (fun _ h9 => h9) rfl dX5_runBlock_8 ?_
  refine lv_if_lt (tgt := 38) hx hb dX5_runBlock_11 (by decide) (fun c_3 => ?_) (fun c_3 => ?_)
  · replace hf := pI_t c_3 hf
    exact wkX5_runBlock_b38 C0 _ _ _ _ H locs ls hf hP hD hS (lv_sub hl [1, 2, 0] rfl)
  · replace hf := pI_f c_3 hf
    refine lv_aload_n hx hb dX5_runBlock_14 rfl (lv_at hl 1 rfl) ?_
    refine va_get (D := D) (ci := 4) (v := .ref a6) (C := RX5) (T := TX5) (N := 27) hx hb hts inX5_runBlock_X5 hown hK hP 0 rfl rfl 9 (by decide) (hts (.fieldLink RX5 29 "BlockCacheModel" "size" "[I") (by decide +kernel)) (fun _ h9 => h9) rfl dX5_runBlock_15 ?_
    refine lv_aload_n hx hb dX5_runBlock_18 rfl (lv_at hl 1 rfl) ?_
    refine va_get (D := D) (ci := 4) (v := .int (gM_leftBy u)) (C := RX5) (T := TX5) (N := 27) hx hb hts inX5_runBlock_X5 hown hK hP 0 rfl rfl 25 (by decide) (hts (.fieldLink RX5 56 "BlockCacheModel" "leftBy" "I") (by decide +kernel)) (fun _ h9 => h9) rfl dX5_runBlock_19 ?_
    refine lv_iconst (v := 2) hx hb dX5_runBlock_22 (by decide) ?_
    refine lv_idiv hx hb dX5_runBlock_23 (by decide) ?_
    obtain ⟨h_4, hf⟩ := pIn_out hf
    refine va_iald hx hb hK hP 6 0 rfl rfl h_4 dX5_runBlock_24 ?_
    refine lv_if_le (tgt := 38) hx hb dX5_runBlock_25 (by decide) (fun c_5 => ?_) (fun c_5 => ?_)
    · replace hf := pI_t c_5 hf
      exact wkX5_runBlock_b38 C0 _ _ _ _ H locs ls hf hP hD hS (lv_sub hl [1, 2, 0] rfl)
    · replace hf := pI_f c_5 hf
      refine lv_aload_n hx hb dX5_runBlock_28 rfl (lv_at hl 1 rfl) ?_
      refine va_get (D := D) (ci := 4) (v := .ref a11) (C := RX5) (T := TX5) (N := 27) hx hb hts inX5_runBlock_X5 hown hK hP 0 rfl rfl 14 (by decide) (hts (.fieldLink RX5 44 "BlockCacheModel" "exitTo" "[I") (by decide +kernel)) (fun _ h9 => h9) rfl dX5_runBlock_29 ?_
      refine lv_aload_n hx hb dX5_runBlock_32 rfl (lv_at hl 1 rfl) ?_
      refine va_get (D := D) (ci := 4) (v := .int (gM_leftBy u)) (C := RX5) (T := TX5) (N := 27) hx hb hts inX5_runBlock_X5 hown hK hP 0 rfl rfl 25 (by decide) (hts (.fieldLink RX5 56 "BlockCacheModel" "leftBy" "I") (by decide +kernel)) (fun _ h9 => h9) rfl dX5_runBlock_33 ?_
      refine lv_iload_n hx hb dX5_runBlock_36 rfl (lv_at hl 0 rfl) ?_
      obtain ⟨h_6, hf⟩ := pIn_out hf
      refine va_iast hx hb hK hP hD hS 11 0 rfl rfl h_6 dX5_runBlock_37 (fun H locs hP hD hS => ?_)
      obtain ⟨u_7, eu_7, hf⟩ := pLet_out hf
      replace hP : va_P D vwCl (wM a0 a1 a2 a3 a4 a5 a6 a7 a8 a9 a10 a11 a12 a13 cI u_7) H := by rw [eu_7]; exact hP
      replace hD : va_D A (wM a0 a1 a2 a3 a4 a5 a6 a7 a8 a9 a10 a11 a12 a13 cI u_7) := by rw [eu_7]; exact hD
      exact wkX5_runBlock_b38 C0 _ _ _ _ H locs ls hf hP hD hS (lv_sub hl [1, 2, 0] rfl)
theorem ctX5_runBlock (l : Launch) (D : va_G) (cI : ClassId) (a0 a1 a2 a3 a4 a5 a6 a7 a8 a9 a10 a11 a12 a13 : Nat) (u : TM) (x1 : Int32) (z : TM) (hz : fX5_runBlock u x1 = some z) : CtV l yX5_runBlock wsX5_runBlock rmX5_runBlock D vwCl [(cI, .int)] [.ref a0, .int x1] (wM a0 a1 a2 a3 a4 a5 a6 a7 a8 a9 a10 a11 a12 a13 cI u) (wM a0 a1 a2 a3 a4 a5 a6 a7 a8 a9 a10 a11 a12 a13 cI z) :=
  ctV_of (cc := cX5_runBlock) (maxL := 7) (ret := none) (by decide) rfl (Nat.le_of_ble_eq_true rfl) (fun p e s m below meth c A ls C hl hP hD hS => wkX5_runBlock C z _ _ s.heap [] ls hz hP hD hS hl)
abbrev rmX5_goOn : Room := { frames := 7, cells := 0, slots := 0, locals := 165 }
theorem inX5_goOn_X5 : ∀ w ∈ wsX50, w ∈ wsX5_goOn := by decide +kernel
set_option maxRecDepth 100000 in
set_option maxHeartbeats 4000000 in
theorem wkX5_goOn_b131 {p : Program} {l : Launch} {e : Env} {s : State} {m : MethodId} {args : Array Value} {below : List Frame} {meth : Method} {c : Code} {D : va_G} {cI : ClassId} {A : Nat → Prop} {a0 a1 a2 a3 a4 a5 a6 a7 a8 a9 a10 a11 a12 a13 : Nat} (C : cxt p s m args meth c cX5_goOn (some .boolean) 5 RX5 wsX5_goOn D vwCl [(cI, .int)] A) : ∀ (z : Int32 × TM) (u : TM) (x2 : Int32) (H : Heap) (locs : List Loc) (ls : Array Slot), fX5_goOn_b131 u x2 = some z → va_P D vwCl (wM a0 a1 a2 a3 a4 a5 a6 a7 a8 a9 a10 a11 a12 a13 cI u) H → va_D A (wM a0 a1 a2 a3 a4 a5 a6 a7 a8 a9 a10 a11 a12 a13 cI u) → va_S A s.heap H locs → lv_has ls 5 [(0, .ref a0), (2, .int x2)] → W p l e rmX5_goOn s m args below meth c H locs 0 0 (MQ below (oI D vwCl [(cI, .int)] A z.1 (wM a0 a1 a2 a3 a4 a5 a6 a7 a8 a9 a10 a11 a12 a13 cI z.2)) args s 0 0 A) (F0 m 131 ls []) := by
  have C0 := C
  obtain ⟨hx, hb, hr, hml, hown, hts, hlocks, hK, hA⟩ := C
  intro z u x2 H locs ls hf hP hD hS hl
  unfold fX5_goOn_b131 at hf
  refine lv_aload_n hx hb dX5_goOn_131 rfl (lv_at hl 0 rfl) ?_
  refine lv_iconst (v := (-1)) hx hb dX5_goOn_132 (by decide) ?_
  refine va_put (D := D) (ci := 4) (v := .int (-1)) (ty := .int) (C := RX5) (T := TX5) (N := 27) hx hb hts inX5_goOn_X5 tyX5 tyX5_ok nmX5 hown hK hP hD hS 0 rfl rfl 25 (by decide) (hts (.fieldLink RX5 56 "BlockCacheModel" "leftBy" "I") (by decide +kernel)) (fun _ h9 => h9) rfl (by decide +kernel) rfl rfl (Nat.le_of_ble_eq_true rfl) dX5_goOn_133 (fun H locs hP hD hS => ?_)
  obtain ⟨u_1, eu_1, hf⟩ := pLet_out hf
  replace hP : va_P D vwCl (wM a0 a1 a2 a3 a4 a5 a6 a7 a8 a9 a10 a11 a12 a13 cI u_1) H := by rw [eu_1]; exact hP
  replace hD : va_D A (wM a0 a1 a2 a3 a4 a5 a6 a7 a8 a9 a10 a11 a12 a13 cI u_1) := by rw [eu_1]; exact hD
  refine lv_aload_n hx hb dX5_goOn_136 rfl (lv_at hl 0 rfl) ?_
  refine lv_iload_n hx hb dX5_goOn_137 rfl (lv_at hl 1 rfl) ?_
  obtain ⟨z_2, hz_2, hf⟩ := pB_out hf
  refine gV (w' := (wM a0 a1 a2 a3 a4 a5 a6 a7 a8 a9 a10 a11 a12 a13 cI z_2)) (va_runV (As := [.int x2]) (rest := []) ⟨hx, hb, hml, hown, hts⟩ (ctX5_look l D cI a0 a1 a2 a3 a4 a5 a6 a7 a8 a9 a10 a11 a12 a13 u_1 x2 z_2 hz_2 H.size) (cwV 1 hts gX5_goOn_X5_look rfl rfl rfl (by decide +kernel) ⟨Nat.le_of_ble_eq_true rfl, Nat.le_of_ble_eq_true rfl⟩) (gPreV (ci := 4) (C := RX5) (T := TX5) (N := 27) hP hK hD [0, 1, 2, 3, 4, 5, 6, 7, 8, 9, 10, 11, 12, 13] (by decide) rfl 0 rfl rfl) rfl rfl hl.1 rfl (lv_room (Nat.le_of_ble_eq_true rfl)) dX5_goOn_138 ⟨Nat.le_of_ble_eq_true rfl, Nat.le_of_ble_eq_true rfl⟩) hP hD hS hA [0, 1, 2, 3, 4, 5, 6, 7, 8, 9, 10, 11, 12, 13] [] [0, 1, 2, 3, 4, 5, 6, 7, 8, 9, 10, 11, 12, 13] rfl rfl (by decide) (by decide) rfl (by decide) (fun H locs hP hD hS => ?_)
  refine lv_aload_n hx hb dX5_goOn_141 rfl (lv_at hl 0 rfl) ?_
  refine va_get (D := D) (ci := 4) (v := .int (gM_kind z_2)) (C := RX5) (T := TX5) (N := 27) hx hb hts inX5_goOn_X5 hown hK hP 0 rfl rfl 18 (by decide) (hts (.fieldLink RX5 66 "BlockCacheModel" "kind" "I") (by decide +kernel)) (fun _ h9 => h9) rfl dX5_goOn_142 ?_
  refine lv_if_ne (tgt := 158) hx hb dX5_goOn_145 (by decide) (fun c_3 => ?_) (fun c_3 => ?_)
  · replace hf := pI_f c_3 hf
    refine lv_aload_n hx hb dX5_goOn_158 rfl (lv_at hl 0 rfl) ?_
    obtain ⟨z_4, hz_4, hf⟩ := pB_out hf
    refine gV (w' := (wM a0 a1 a2 a3 a4 a5 a6 a7 a8 a9 a10 a11 a12 a13 cI z_4)) (va_runV (As := []) (rest := []) ⟨hx, hb, hml, hown, hts⟩ (ctX5_step l D cI a0 a1 a2 a3 a4 a5 a6 a7 a8 a9 a10 a11 a12 a13 z_2 z_4 hz_4 H.size) (cwV 0 hts gX5_goOn_X5_step rfl rfl rfl (by decide +kernel) ⟨Nat.le_of_ble_eq_true rfl, Nat.le_of_ble_eq_true rfl⟩) (gPreV (ci := 4) (C := RX5) (T := TX5) (N := 27) hP hK hD [0, 1, 2, 3, 4, 5, 6, 7, 8, 9, 10, 11, 12, 13] (by decide) rfl 0 rfl rfl) rfl rfl hl.1 rfl (lv_room (Nat.le_of_ble_eq_true rfl)) dX5_goOn_159 ⟨Nat.le_of_ble_eq_true rfl, Nat.le_of_ble_eq_true rfl⟩) hP hD hS hA [0, 1, 2, 3, 4, 5, 6, 7, 8, 9, 10, 11, 12, 13] [] [0, 1, 2, 3, 4, 5, 6, 7, 8, 9, 10, 11, 12, 13] rfl rfl (by decide) (by decide) rfl (by decide) (fun H locs hP hD hS => ?_)
    refine lv_aload_n hx hb dX5_goOn_162 rfl (lv_at hl 0 rfl) ?_
    refine va_get (D := D) (ci := 4) (v := .ref a12) (C := RX5) (T := TX5) (N := 27) hx hb hts inX5_goOn_X5 hown hK hP 0 rfl rfl 17 (by decide) (hts (.fieldLink RX5 50 "BlockCacheModel" "counts" "[I") (by decide +kernel)) (fun _ h9 => h9) rfl dX5_goOn_163 ?_
    refine lv_bipush (v := 7) hx hb dX5_goOn_166 (by decide) ?_
    refine lv_dup2_11 hx hb dX5_goOn_168 rfl rfl ?_
    obtain ⟨h_5, hf⟩ := pIn_out hf
    refine va_iald hx hb hK hP 12 0 rfl rfl h_5 dX5_goOn_169 ?_
    refine lv_iconst (v := 1) hx hb dX5_goOn_170 (by decide) ?_
    refine lv_iadd hx hb dX5_goOn_171 ?_
    obtain ⟨h_6, hf⟩ := pIn_out hf
    refine va_iast hx hb hK hP hD hS 12 0 rfl rfl h_6 dX5_goOn_172 (fun H locs hP hD hS => ?_)
    obtain ⟨u_7, eu_7, hf⟩ := pLet_out hf
    replace hP : va_P D vwCl (wM a0 a1 a2 a3 a4 a5 a6 a7 a8 a9 a10 a11 a12 a13 cI u_7) H := by rw [eu_7]; exact hP
    replace hD : va_D A (wM a0 a1 a2 a3 a4 a5 a6 a7 a8 a9 a10 a11 a12 a13 cI u_7) := by rw [eu_7]; exact hD
    refine lv_aload_n hx hb dX5_goOn_173 rfl (lv_at hl 0 rfl) ?_
    refine va_get (D := D) (ci := 4) (v := .int (gM_isOver u_7)) (C := RX5) (T := TX5) (N := 27) hx hb hts inX5_goOn_X5 hown hK hP 0 rfl rfl 26 (by decide) (hts (.fieldLink RX5 127 "BlockCacheModel" "isOver" "Z") (by decide +kernel)) (fun _ h9 => h9) rfl dX5_goOn_174 ?_
    refine lv_if_ne (tgt := 184) hx hb dX5_goOn_177 (by decide) (fun c_8 => ?_) (fun c_8 => ?_)
    · replace hf := pI_f c_8 hf
      refine lv_iconst (v := 0) hx hb dX5_goOn_184 (by decide) ?_
      have hz := Option.some.inj hf
      subst hz
      exact gRetZ hx hb hr hlocks hK hP hD hS (by decide) rfl rfl dX5_goOn_185
    · replace hf := pI_t c_8 hf
      refine lv_iconst (v := 1) hx hb dX5_goOn_180 (by decide) ?_
      refine lv_goto (tgt := 185) hx hb dX5_goOn_181 (by decide) ?_
      have hz := Option.some.inj hf
      subst hz
      exact gRetZ hx hb hr hlocks hK hP hD hS (by decide) rfl rfl dX5_goOn_185
  · replace hf := pI_t c_3 hf
    refine lv_aload_n hx hb dX5_goOn_148 rfl (lv_at hl 0 rfl) ?_
    refine va_get (D := D) (ci := 4) (v := .ref a12) (C := RX5) (T := TX5) (N := 27) hx hb hts inX5_goOn_X5 hown hK hP 0 rfl rfl 17 (by decide) (hts (.fieldLink RX5 50 "BlockCacheModel" "counts" "[I") (by decide +kernel)) (fun _ h9 => h9) rfl dX5_goOn_149 ?_
    refine lv_bipush (v := 11) hx hb dX5_goOn_152 (by decide) ?_
    refine lv_iconst (v := 2) hx hb dX5_goOn_154 (by decide) ?_
    obtain ⟨h_9, hf⟩ := pIn_out hf
    refine va_iast hx hb hK hP hD hS 12 0 rfl rfl h_9 dX5_goOn_155 (fun H locs hP hD hS => ?_)
    obtain ⟨u_10, eu_10, hf⟩ := pLet_out hf
    replace hP : va_P D vwCl (wM a0 a1 a2 a3 a4 a5 a6 a7 a8 a9 a10 a11 a12 a13 cI u_10) H := by rw [eu_10]; exact hP
    replace hD : va_D A (wM a0 a1 a2 a3 a4 a5 a6 a7 a8 a9 a10 a11 a12 a13 cI u_10) := by rw [eu_10]; exact hD
    refine lv_iconst (v := 0) hx hb dX5_goOn_156 (by decide) ?_
    have hz := Option.some.inj hf
    subst hz
    exact gRetZ hx hb hr hlocks hK hP hD hS (by decide) rfl rfl dX5_goOn_157
set_option maxRecDepth 100000 in
set_option maxHeartbeats 4000000 in
theorem wkX5_goOn_b83 {p : Program} {l : Launch} {e : Env} {s : State} {m : MethodId} {args : Array Value} {below : List Frame} {meth : Method} {c : Code} {D : va_G} {cI : ClassId} {A : Nat → Prop} {a0 a1 a2 a3 a4 a5 a6 a7 a8 a9 a10 a11 a12 a13 : Nat} (C : cxt p s m args meth c cX5_goOn (some .boolean) 5 RX5 wsX5_goOn D vwCl [(cI, .int)] A) : ∀ (z : Int32 × TM) (u : TM) (x1 : Int32) (x2 : Int32) (y0 : Int32) (H : Heap) (locs : List Loc) (ls : Array Slot), fX5_goOn_b83 u x1 x2 y0 = some z → va_P D vwCl (wM a0 a1 a2 a3 a4 a5 a6 a7 a8 a9 a10 a11 a12 a13 cI u) H → va_D A (wM a0 a1 a2 a3 a4 a5 a6 a7 a8 a9 a10 a11 a12 a13 cI u) → va_S A s.heap H locs → lv_has ls 5 [(0, .ref a0), (1, .int x1), (2, .int x2)] → W p l e rmX5_goOn s m args below meth c H locs 0 0 (MQ below (oI D vwCl [(cI, .int)] A z.1 (wM a0 a1 a2 a3 a4 a5 a6 a7 a8 a9 a10 a11 a12 a13 cI z.2)) args s 0 0 A) (F0 m 83 ls [.int y0]) := by
  have C0 := C
  obtain ⟨hx, hb, hr, hml, hown, hts, hlocks, hK, hA⟩ := C
  intro z u x1 x2 y0 H locs ls hf hP hD hS hl
  unfold fX5_goOn_b83 at hf
  refine lv_istore (lv' := [(4, .int y0), (0, .ref a0), (1, .int x1), (2, .int x2)]) hx hb dX5_goOn_83 hl (by decide) rfl (fun ls hl => ?_)
  refine lv_iload hx hb dX5_goOn_85 (lv_at hl 0 rfl) ?_
  refine lv_if_eq (tgt := 131) hx hb dX5_goOn_87 (by decide) (fun c_1 => ?_) (fun c_1 => ?_)
  · replace hf := pI_t c_1 hf
    exact wkX5_goOn_b131 C0 _ _ _ H locs ls hf hP hD hS (lv_sub hl [1, 3] rfl)
  · replace hf := pI_f c_1 hf
    refine lv_aload_n hx hb dX5_goOn_90 rfl (lv_at hl 1 rfl) ?_
    refine va_get (D := D) (ci := 4) (v := .ref a7) (C := RX5) (T := TX5) (N := 27) hx hb hts inX5_goOn_X5 hown hK hP 0 rfl rfl 10 (by decide) (hts (.fieldLink RX5 32 "BlockCacheModel" "length" "[I") (by decide +kernel)) (fun _ h9 => h9) rfl dX5_goOn_91 ?_
    refine lv_iload_n hx hb dX5_goOn_94 rfl (lv_at hl 3 rfl) ?_
    obtain ⟨h_2, hf⟩ := pIn_out hf
    refine va_iald hx hb hK hP 7 0 rfl rfl h_2 dX5_goOn_95 ?_
    refine lv_iload_n hx hb dX5_goOn_96 rfl (lv_at hl 2 rfl) ?_
    refine lv_icmp_gt (tgt := 131) hx hb dX5_goOn_97 (by decide) (fun c_3 => ?_) (fun c_3 => ?_)
    · replace hf := pI_t c_3 hf
      exact wkX5_goOn_b131 C0 _ _ _ H locs ls hf hP hD hS (lv_sub hl [1, 3] rfl)
    · replace hf := pI_f c_3 hf
      refine lv_aload_n hx hb dX5_goOn_100 rfl (lv_at hl 1 rfl) ?_
      refine lv_aload_n hx hb dX5_goOn_101 rfl (lv_at hl 1 rfl) ?_
      refine va_get (D := D) (ci := 4) (v := .ref a7) (C := RX5) (T := TX5) (N := 27) hx hb hts inX5_goOn_X5 hown hK hP 0 rfl rfl 10 (by decide) (hts (.fieldLink RX5 32 "BlockCacheModel" "length" "[I") (by decide +kernel)) (fun _ h9 => h9) rfl dX5_goOn_102 ?_
      refine lv_iload_n hx hb dX5_goOn_105 rfl (lv_at hl 3 rfl) ?_
      obtain ⟨h_4, hf⟩ := pIn_out hf
      refine va_iald hx hb hK hP 7 0 rfl rfl h_4 dX5_goOn_106 ?_
      obtain ⟨z_5, hz_5, hf⟩ := pB_out hf
      refine gI (w' := (wM a0 a1 a2 a3 a4 a5 a6 a7 a8 a9 a10 a11 a12 a13 cI u)) (va_runV (As := [.int ((gM_length u) x2.toNatClampNeg)]) (rest := []) ⟨hx, hb, hml, hown, hts⟩ (ctX5_isDisturbed l D cI a0 a1 a2 a3 a4 a5 a6 a7 a8 a9 a10 a11 a12 a13 u ((gM_length u) x2.toNatClampNeg) z_5 hz_5 H.size) (cwV 1 hts gX5_goOn_X5_isDisturbed rfl rfl rfl (by decide +kernel) ⟨Nat.le_of_ble_eq_true rfl, Nat.le_of_ble_eq_true rfl⟩) (gPreV (ci := 4) (C := RX5) (T := TX5) (N := 27) hP hK hD [0, 1, 2, 3, 4, 5, 6, 7, 8, 9, 10, 11, 12, 13] (by decide) rfl 0 rfl rfl) rfl rfl hl.1 rfl (lv_room (Nat.le_of_ble_eq_true rfl)) dX5_goOn_107 ⟨Nat.le_of_ble_eq_true rfl, Nat.le_of_ble_eq_true rfl⟩) hP hD hS hA [0, 1, 2, 3, 4, 5, 6, 7, 8, 9, 10, 11, 12, 13] [] [0, 1, 2, 3, 4, 5, 6, 7, 8, 9, 10, 11, 12, 13] rfl rfl (by decide) (by decide) rfl (by decide) (fun H locs hP hD hS => ?_)
      refine lv_if_ne (tgt := 131) hx hb dX5_goOn_110 (by decide) (fun c_6 => ?_) (fun c_6 => ?_)
      · replace hf := pI_f c_6 hf
        exact wkX5_goOn_b131 C0 _ _ _ H locs ls hf hP hD hS (lv_sub hl [1, 3] rfl)
      · replace hf := pI_t c_6 hf
        refine lv_aload_n hx hb dX5_goOn_113 rfl (lv_at hl 1 rfl) ?_
        refine lv_iload_n hx hb dX5_goOn_114 rfl (lv_at hl 3 rfl) ?_
        obtain ⟨z_7, hz_7, hf⟩ := pB_out hf
        refine gV (w' := (wM a0 a1 a2 a3 a4 a5 a6 a7 a8 a9 a10 a11 a12 a13 cI z_7)) (va_runV (As := [.int x2]) (rest := []) ⟨hx, hb, hml, hown, hts⟩ (ctX5_runBlock l D cI a0 a1 a2 a3 a4 a5 a6 a7 a8 a9 a10 a11 a12 a13 u x2 z_7 hz_7 H.size) (cwV 1 hts gX5_goOn_X5_runBlock rfl rfl rfl (by decide +kernel) ⟨Nat.le_of_ble_eq_true rfl, Nat.le_of_ble_eq_true rfl⟩) (gPreV (ci := 4) (C := RX5) (T := TX5) (N := 27) hP hK hD [0, 1, 2, 3, 4, 5, 6, 7, 8, 9, 10, 11, 12, 13] (by decide) rfl 0 rfl rfl) rfl rfl hl.1 rfl (lv_room (Nat.le_of_ble_eq_true rfl)) dX5_goOn_115 ⟨Nat.le_of_ble_eq_true rfl, Nat.le_of_ble_eq_true rfl⟩) hP hD hS hA [0, 1, 2, 3, 4, 5, 6, 7, 8, 9, 10, 11, 12, 13] [] [0, 1, 2, 3, 4, 5, 6, 7, 8, 9, 10, 11, 12, 13] rfl rfl (by decide) (by decide) rfl (by decide) (fun H locs hP hD hS => ?_)
        refine lv_aload_n hx hb dX5_goOn_118 rfl (lv_at hl 1 rfl) ?_
        refine va_get (D := D) (ci := 4) (v := .int (gM_isOver z_7)) (C := RX5) (T := TX5) (N := 27) hx hb hts inX5_goOn_X5 hown hK hP 0 rfl rfl 26 (by decide) (hts (.fieldLink RX5 127 "BlockCacheModel" "isOver" "Z") (by decide +kernel)) (fun _ h9 => h9) rfl dX5_goOn_119 ?_
        refine lv_if_ne (tgt := 129) hx hb dX5_goOn_122 (by decide) (fun c_8 => ?_) (fun c_8 => ?_)
        · replace hf := pI_f c_8 hf
          refine lv_iconst (v := 0) hx hb dX5_goOn_129 (by decide) ?_
          have hz := Option.some.inj hf
          subst hz
          exact gRetZ hx hb hr hlocks hK hP hD hS (by decide) rfl rfl dX5_goOn_130
        · replace hf := pI_t c_8 hf
          refine lv_iconst (v := 1) hx hb dX5_goOn_125 (by decide) ?_
          refine lv_goto (tgt := 130) hx hb dX5_goOn_126 (by decide) ?_
          have hz := Option.some.inj hf
          subst hz
          exact gRetZ hx hb hr hlocks hK hP hD hS (by decide) rfl rfl dX5_goOn_130
set_option maxRecDepth 100000 in
set_option maxHeartbeats 4000000 in
theorem wkX5_goOn_b78 {p : Program} {l : Launch} {e : Env} {s : State} {m : MethodId} {args : Array Value} {below : List Frame} {meth : Method} {c : Code} {D : va_G} {cI : ClassId} {A : Nat → Prop} {a0 a1 a2 a3 a4 a5 a6 a7 a8 a9 a10 a11 a12 a13 : Nat} (C : cxt p s m args meth c cX5_goOn (some .boolean) 5 RX5 wsX5_goOn D vwCl [(cI, .int)] A) : ∀ (z : Int32 × TM) (u : TM) (x1 : Int32) (x2 : Int32) (H : Heap) (locs : List Loc) (ls : Array Slot), fX5_goOn_b78 u x1 x2 = some z → va_P D vwCl (wM a0 a1 a2 a3 a4 a5 a6 a7 a8 a9 a10 a11 a12 a13 cI u) H → va_D A (wM a0 a1 a2 a3 a4 a5 a6 a7 a8 a9 a10 a11 a12 a13 cI u) → va_S A s.heap H locs → lv_has ls 5 [(0, .ref a0), (1, .int x1), (2, .int x2)] → W p l e rmX5_goOn s m args below meth c H locs 0 0 (MQ below (oI D vwCl [(cI, .int)] A z.1 (wM a0 a1 a2 a3 a4 a5 a6 a7 a8 a9 a10 a11 a12 a13 cI z.2)) args s 0 0 A) (F0 m 78 ls []) := by
  have C0 := C
  obtain ⟨hx, hb, hr, hml, hown, hts, hlocks, hK, hA⟩ := C
  intro z u x1 x2 H locs ls hf hP hD hS hl
  unfold fX5_goOn_b78 at hf
  refine lv_iconst (v := 1) hx hb dX5_goOn_78 (by decide) ?_
  refine lv_goto (tgt := 83) hx hb dX5_goOn_79 (by decide) ?_
  exact wkX5_goOn_b83 C0 _ _ _ _ _ H locs ls hf hP hD hS (lv_sub hl [0, 1, 2] rfl)
set_option maxRecDepth 100000 in
set_option maxHeartbeats 4000000 in
theorem wkX5_goOn_b66 {p : Program} {l : Launch} {e : Env} {s : State} {m : MethodId} {args : Array Value} {below : List Frame} {meth : Method} {c : Code} {D : va_G} {cI : ClassId} {A : Nat → Prop} {a0 a1 a2 a3 a4 a5 a6 a7 a8 a9 a10 a11 a12 a13 : Nat} (C : cxt p s m args meth c cX5_goOn (some .boolean) 5 RX5 wsX5_goOn D vwCl [(cI, .int)] A) : ∀ (z : Int32 × TM) (u : TM) (x1 : Int32) (x2 : Int32) (x3 : Int32) (H : Heap) (locs : List Loc) (ls : Array Slot), fX5_goOn_b66 u x1 x2 x3 = some z → va_P D vwCl (wM a0 a1 a2 a3 a4 a5 a6 a7 a8 a9 a10 a11 a12 a13 cI u) H → va_D A (wM a0 a1 a2 a3 a4 a5 a6 a7 a8 a9 a10 a11 a12 a13 cI u) → va_S A s.heap H locs → lv_has ls 5 [(0, .ref a0), (1, .int x1), (2, .int x2), (3, .int x3)] → W p l e rmX5_goOn s m args below meth c H locs 0 0 (MQ below (oI D vwCl [(cI, .int)] A z.1 (wM a0 a1 a2 a3 a4 a5 a6 a7 a8 a9 a10 a11 a12 a13 cI z.2)) args s 0 0 A) (F0 m 66 ls []) := by
  have C0 := C
  obtain ⟨hx, hb, hr, hml, hown, hts, hlocks, hK, hA⟩ := C
  intro z u x1 x2 x3 H locs ls hf hP hD hS hl
  unfold fX5_goOn_b66 at hf
  refine lv_iload_n hx hb dX5_goOn_66 rfl (lv_at hl 3 rfl) ?_
  refine lv_if_ne (tgt := 78) hx hb dX5_goOn_67 (by decide) (fun c_1 => ?_) (fun c_1 => ?_)
  · replace hf := pI_f c_1 hf
    exact wkX5_goOn_b78 C0 _ _ _ _ H locs ls hf hP hD hS (lv_sub hl [0, 1, 2] rfl)
  · replace hf := pI_t c_1 hf
    refine lv_aload_n hx hb dX5_goOn_70 rfl (lv_at hl 0 rfl) ?_
    refine lv_iload_n hx hb dX5_goOn_71 rfl (lv_at hl 2 rfl) ?_
    obtain ⟨z_2, hz_2, hf⟩ := pB_out hf
    refine gI (w' := (wM a0 a1 a2 a3 a4 a5 a6 a7 a8 a9 a10 a11 a12 a13 cI z_2.2)) (va_runV (As := [.int x2]) (rest := []) ⟨hx, hb, hml, hown, hts⟩ (ctX5_hasBlock l D cI a0 a1 a2 a3 a4 a5 a6 a7 a8 a9 a10 a11 a12 a13 u x2 z_2 hz_2 H.size) (cwV 1 hts gX5_goOn_X5_hasBlock rfl rfl rfl (by decide +kernel) ⟨Nat.le_of_ble_eq_true rfl, Nat.le_of_ble_eq_true rfl⟩) (gPreV (ci := 4) (C := RX5) (T := TX5) (N := 27) hP hK hD [0, 1, 2, 3, 4, 5, 6, 7, 8, 9, 10, 11, 12, 13] (by decide) rfl 0 rfl rfl) rfl rfl hl.1 rfl (lv_room (Nat.le_of_ble_eq_true rfl)) dX5_goOn_72 ⟨Nat.le_of_ble_eq_true rfl, Nat.le_of_ble_eq_true rfl⟩) hP hD hS hA [0, 1, 2, 3, 4, 5, 6, 7, 8, 9, 10, 11, 12, 13] [] [0, 1, 2, 3, 4, 5, 6, 7, 8, 9, 10, 11, 12, 13] rfl rfl (by decide) (by decide) rfl (by decide) (fun H locs hP hD hS => ?_)
    refine lv_if_eq (tgt := 82) hx hb dX5_goOn_75 (by decide) (fun c_3 => ?_) (fun c_3 => ?_)
    · replace hf := pI_t c_3 hf
      refine lv_iconst (v := 0) hx hb dX5_goOn_82 (by decide) ?_
      exact wkX5_goOn_b83 C0 _ _ _ _ _ H locs ls hf hP hD hS (lv_sub hl [0, 1, 2] rfl)
    · replace hf := pI_f c_3 hf
      exact wkX5_goOn_b78 C0 _ _ _ _ H locs ls hf hP hD hS (lv_sub hl [0, 1, 2] rfl)
set_option maxRecDepth 100000 in
set_option maxHeartbeats 4000000 in
theorem wkX5_goOn_b37 {p : Program} {l : Launch} {e : Env} {s : State} {m : MethodId} {args : Array Value} {below : List Frame} {meth : Method} {c : Code} {D : va_G} {cI : ClassId} {A : Nat → Prop} {a0 a1 a2 a3 a4 a5 a6 a7 a8 a9 a10 a11 a12 a13 : Nat} (C : cxt p s m args meth c cX5_goOn (some .boolean) 5 RX5 wsX5_goOn D vwCl [(cI, .int)] A) : ∀ (z : Int32 × TM) (u : TM) (x1 : Int32) (H : Heap) (locs : List Loc) (ls : Array Slot), fX5_goOn_b37 u x1 = some z → va_P D vwCl (wM a0 a1 a2 a3 a4 a5 a6 a7 a8 a9 a10 a11 a12 a13 cI u) H → va_D A (wM a0 a1 a2 a3 a4 a5 a6 a7 a8 a9 a10 a11 a12 a13 cI u) → va_S A s.heap H locs → lv_has ls 5 [(0, .ref a0), (1, .int x1)] → W p l e rmX5_goOn s m args below meth c H locs 0 0 (MQ below (oI D vwCl [(cI, .int)] A z.1 (wM a0 a1 a2 a3 a4 a5 a6 a7 a8 a9 a10 a11 a12 a13 cI z.2)) args s 0 0 A) (F0 m 37 ls []) := by
  have C0 := C
  obtain ⟨hx, hb, hr, hml, hown, hts, hlocks, hK, hA⟩ := C
  intro z u x1 H locs ls hf hP hD hS hl
  unfold fX5_goOn_b37 at hf
  refine lv_aload_n hx hb dX5_goOn_37 rfl (lv_at hl 0 rfl) ?_
  refine va_get (D := D) (ci := 4) (v := .ref a2) (C := RX5) (T := TX5) (N := 27) hx hb hts inX5_goOn_X5 hown hK hP 0 rfl rfl 2 (by decide) (hts (.fieldLink RX5 13 "BlockCacheModel" "reg" "[I") (by decide +kernel)) (fun _ h9 => h9) rfl dX5_goOn_38 ?_
  refine lv_bipush (v := 9) hx hb dX5_goOn_41 (by decide) ?_
  obtain ⟨h_1, hf⟩ := pIn_out hf
  refine va_iald hx hb hK hP 2 0 rfl rfl h_1 dX5_goOn_43 ?_
  obtain ⟨x_2, ex_2, hf⟩ := pLet_out hf
  refine gTop ex_2 ?_
  refine lv_istore_n (lv' := [(2, .int x_2), (0, .ref a0), (1, .int x1)]) hx hb dX5_goOn_44 rfl hl (by decide) rfl (fun ls hl => ?_)
  refine lv_aload_n hx hb dX5_goOn_45 rfl (lv_at hl 1 rfl) ?_
  refine lv_iload_n hx hb dX5_goOn_46 rfl (lv_at hl 0 rfl) ?_
  obtain ⟨z_3, hz_3, hf⟩ := pB_out hf
  refine gI (w' := (wM a0 a1 a2 a3 a4 a5 a6 a7 a8 a9 a10 a11 a12 a13 cI u)) (va_runV (As := [.int x_2]) (rest := []) ⟨hx, hb, hml, hown, hts⟩ (ctX5_isLinked l D cI a0 a1 a2 a3 a4 a5 a6 a7 a8 a9 a10 a11 a12 a13 u x_2 z_3 hz_3 H.size) (cwV 1 hts gX5_goOn_X5_isLinked rfl rfl rfl (by decide +kernel) ⟨Nat.le_of_ble_eq_true rfl, Nat.le_of_ble_eq_true rfl⟩) (gPreV (ci := 4) (C := RX5) (T := TX5) (N := 27) hP hK hD [0, 1, 2, 3, 4, 5, 6, 7, 8, 9, 10, 11, 12, 13] (by decide) rfl 0 rfl rfl) rfl rfl hl.1 rfl (lv_room (Nat.le_of_ble_eq_true rfl)) dX5_goOn_47 ⟨Nat.le_of_ble_eq_true rfl, Nat.le_of_ble_eq_true rfl⟩) hP hD hS hA [0, 1, 2, 3, 4, 5, 6, 7, 8, 9, 10, 11, 12, 13] [] [0, 1, 2, 3, 4, 5, 6, 7, 8, 9, 10, 11, 12, 13] rfl rfl (by decide) (by decide) rfl (by decide) (fun H locs hP hD hS => ?_)
  refine lv_istore_n (lv' := [(3, .int z_3), (2, .int x_2), (0, .ref a0), (1, .int x1)]) hx hb dX5_goOn_50 rfl hl (by decide) rfl (fun ls hl => ?_)
  refine lv_iload_n hx hb dX5_goOn_51 rfl (lv_at hl 0 rfl) ?_
  refine lv_if_ne (tgt := 66) hx hb dX5_goOn_52 (by decide) (fun c_4 => ?_) (fun c_4 => ?_)
  · replace hf := pI_f c_4 hf
    exact wkX5_goOn_b66 C0 _ _ _ _ _ H locs ls hf hP hD hS (lv_sub hl [2, 3, 1, 0] rfl)
  · replace hf := pI_t c_4 hf
    refine lv_aload_n hx hb dX5_goOn_55 rfl (lv_at hl 2 rfl) ?_
    refine va_get (D := D) (ci := 4) (v := .ref a12) (C := RX5) (T := TX5) (N := 27) hx hb hts inX5_goOn_X5 hown hK hP 0 rfl rfl 17 (by decide) (hts (.fieldLink RX5 50 "BlockCacheModel" "counts" "[I") (by decide +kernel)) (fun _ h9 => h9) rfl dX5_goOn_56 ?_
    refine lv_bipush (v := 6) hx hb dX5_goOn_59 (by decide) ?_
    refine lv_dup2_11 hx hb dX5_goOn_61 rfl rfl ?_
    obtain ⟨h_5, hf⟩ := pIn_out hf
    refine va_iald hx hb hK hP 12 0 rfl rfl h_5 dX5_goOn_62 ?_
    refine lv_iconst (v := 1) hx hb dX5_goOn_63 (by decide) ?_
    refine lv_iadd hx hb dX5_goOn_64 ?_
    obtain ⟨h_6, hf⟩ := pIn_out hf
    refine va_iast hx hb hK hP hD hS 12 0 rfl rfl h_6 dX5_goOn_65 (fun H locs hP hD hS => ?_)
    obtain ⟨u_7, eu_7, hf⟩ := pLet_out hf
    replace hP : va_P D vwCl (wM a0 a1 a2 a3 a4 a5 a6 a7 a8 a9 a10 a11 a12 a13 cI u_7) H := by rw [eu_7]; exact hP
    replace hD : va_D A (wM a0 a1 a2 a3 a4 a5 a6 a7 a8 a9 a10 a11 a12 a13 cI u_7) := by rw [eu_7]; exact hD
    exact wkX5_goOn_b66 C0 _ _ _ _ _ H locs ls hf hP hD hS (lv_sub hl [2, 3, 1, 0] rfl)
set_option maxRecDepth 100000 in
set_option maxHeartbeats 4000000 in
theorem wkX5_goOn {p : Program} {l : Launch} {e : Env} {s : State} {m : MethodId} {args : Array Value} {below : List Frame} {meth : Method} {c : Code} {D : va_G} {cI : ClassId} {A : Nat → Prop} {a0 a1 a2 a3 a4 a5 a6 a7 a8 a9 a10 a11 a12 a13 : Nat} (C : cxt p s m args meth c cX5_goOn (some .boolean) 5 RX5 wsX5_goOn D vwCl [(cI, .int)] A) : ∀ (z : Int32 × TM) (u : TM) (x1 : Int32) (H : Heap) (locs : List Loc) (ls : Array Slot), fX5_goOn u x1 = some z → va_P D vwCl (wM a0 a1 a2 a3 a4 a5 a6 a7 a8 a9 a10 a11 a12 a13 cI u) H → va_D A (wM a0 a1 a2 a3 a4 a5 a6 a7 a8 a9 a10 a11 a12 a13 cI u) → va_S A s.heap H locs → lv_has ls 5 [(0, .ref a0), (1, .int x1)] → W p l e rmX5_goOn s m args below meth c H locs 0 0 (MQ below (oI D vwCl [(cI, .int)] A z.1 (wM a0 a1 a2 a3 a4 a5 a6 a7 a8 a9 a10 a11 a12 a13 cI z.2)) args s 0 0 A) (F0 m 0 ls []) := by
  have C0 := C
  obtain ⟨hx, hb, hr, hml, hown, hts, hlocks, hK, hA⟩ := C
  intro z u x1 H locs ls hf hP hD hS hl
  unfold fX5_goOn at hf
  refine lv_aload_n hx hb dX5_goOn_0 rfl (lv_at hl 0 rfl) ?_
  refine va_get (D := D) (ci := 4) (v := .int (gM_requestMany u)) (C := RX5) (T := TX5) (N := 27) hx hb hts inX5_goOn_X5 hown hK hP 0 rfl rfl 6 (by decide) (hts (.fieldLink RX5 162 "BlockCacheModel" "requestMany" "I") (by decide +kernel)) (fun _ h9 => h9) rfl dX5_goOn_1 ?_
  refine lv_if_le (tgt := 37) hx hb dX5_goOn_4 (by decide) (fun c_1 => ?_) (fun c_1 => ?_)
  · replace hf := pI_t c_1 hf
    exact wkX5_goOn_b37 C0 _ _ _ H locs ls hf hP hD hS (lv_sub hl [0, 1] rfl)
  · replace hf := pI_f c_1 hf
    refine lv_aload_n hx hb dX5_goOn_7 rfl (lv_at hl 0 rfl) ?_
    refine va_get (D := D) (ci := 4) (v := .ref a2) (C := RX5) (T := TX5) (N := 27) hx hb hts inX5_goOn_X5 hown hK hP 0 rfl rfl 2 (by decide) (hts (.fieldLink RX5 13 "BlockCacheModel" "reg" "[I") (by decide +kernel)) (fun _ h9 => h9) rfl dX5_goOn_8 ?_
    refine lv_bipush (v := 8) hx hb dX5_goOn_11 (by decide) ?_
    obtain ⟨h_2, hf⟩ := pIn_out hf
    refine va_iald hx hb hK hP 2 0 rfl rfl h_2 dX5_goOn_13 ?_
    refine lv_iconst (v := 1) hx hb dX5_goOn_14 (by decide) ?_
    refine lv_icmp_ne (tgt := 37) hx hb dX5_goOn_15 (by decide) (fun c_3 => ?_) (fun c_3 => ?_)
    · replace hf := pI_f c_3 hf
      exact wkX5_goOn_b37 C0 _ _ _ H locs ls hf hP hD hS (lv_sub hl [0, 1] rfl)
    · replace hf := pI_t c_3 hf
      refine lv_aload_n hx hb dX5_goOn_18 rfl (lv_at hl 0 rfl) ?_
      refine va_get (D := D) (ci := 4) (v := .ref a4) (C := RX5) (T := TX5) (N := 27) hx hb hts inX5_goOn_X5 hown hK hP 0 rfl rfl 5 (by decide) (hts (.fieldLink RX5 19 "BlockCacheModel" "requests" "[I") (by decide +kernel)) (fun _ h9 => h9) rfl dX5_goOn_19 ?_
      refine lv_iconst (v := 0) hx hb dX5_goOn_22 (by decide) ?_
      obtain ⟨h_4, hf⟩ := pIn_out hf
      refine va_iald hx hb hK hP 4 0 rfl rfl h_4 dX5_goOn_23 ?_
      refine lv_aload_n hx hb dX5_goOn_24 rfl (lv_at hl 0 rfl) ?_
      refine va_get (D := D) (ci := 4) (v := .ref a12) (C := RX5) (T := TX5) (N := 27) hx hb hts inX5_goOn_X5 hown hK hP 0 rfl rfl 17 (by decide) (hts (.fieldLink RX5 50 "BlockCacheModel" "counts" "[I") (by decide +kernel)) (fun _ h9 => h9) rfl dX5_goOn_25 ?_
      refine lv_iconst (v := 0) hx hb dX5_goOn_28 (by decide) ?_
      obtain ⟨h_5, hf⟩ := pIn_out hf
      refine va_iald hx hb hK hP 12 0 rfl rfl h_5 dX5_goOn_29 ?_
      refine lv_icmp_gt (tgt := 37) hx hb dX5_goOn_30 (by decide) (fun c_6 => ?_) (fun c_6 => ?_)
      · replace hf := pI_t c_6 hf
        exact wkX5_goOn_b37 C0 _ _ _ H locs ls hf hP hD hS (lv_sub hl [0, 1] rfl)
      · replace hf := pI_f c_6 hf
        refine lv_aload_n hx hb dX5_goOn_33 rfl (lv_at hl 0 rfl) ?_
        obtain ⟨z_7, hz_7, hf⟩ := pB_out hf
        refine gV (w' := (wM a0 a1 a2 a3 a4 a5 a6 a7 a8 a9 a10 a11 a12 a13 cI z_7)) (va_runV (As := []) (rest := []) ⟨hx, hb, hml, hown, hts⟩ (ctX5_interrupt l D cI a0 a1 a2 a3 a4 a5 a6 a7 a8 a9 a10 a11 a12 a13 u z_7 hz_7 H.size) (cwV 0 hts gX5_goOn_X5_interrupt rfl rfl rfl (by decide +kernel) ⟨Nat.le_of_ble_eq_true rfl, Nat.le_of_ble_eq_true rfl⟩) (gPreV (ci := 4) (C := RX5) (T := TX5) (N := 27) hP hK hD [0, 1, 2, 3, 4, 5, 6, 7, 8, 9, 10, 11, 12, 13] (by decide) rfl 0 rfl rfl) rfl rfl hl.1 rfl (lv_room (Nat.le_of_ble_eq_true rfl)) dX5_goOn_34 ⟨Nat.le_of_ble_eq_true rfl, Nat.le_of_ble_eq_true rfl⟩) hP hD hS hA [0, 1, 2, 3, 4, 5, 6, 7, 8, 9, 10, 11, 12, 13] [] [0, 1, 2, 3, 4, 5, 6, 7, 8, 9, 10, 11, 12, 13] rfl rfl (by decide) (by decide) rfl (by decide) (fun H locs hP hD hS => ?_)
        exact wkX5_goOn_b37 C0 _ _ _ H locs ls hf hP hD hS (lv_sub hl [0, 1] rfl)
theorem ctX5_goOn (l : Launch) (D : va_G) (cI : ClassId) (a0 a1 a2 a3 a4 a5 a6 a7 a8 a9 a10 a11 a12 a13 : Nat) (u : TM) (x1 : Int32) (z : Int32 × TM) (hz : fX5_goOn u x1 = some z) : CtI l yX5_goOn wsX5_goOn rmX5_goOn D vwCl [(cI, .int)] [.ref a0, .int x1] (wM a0 a1 a2 a3 a4 a5 a6 a7 a8 a9 a10 a11 a12 a13 cI u) z.1 (wM a0 a1 a2 a3 a4 a5 a6 a7 a8 a9 a10 a11 a12 a13 cI z.2) :=
  ctI_of (cc := cX5_goOn) (maxL := 5) (ret := (some .boolean)) (by decide) rfl (Nat.le_of_ble_eq_true rfl) (fun p e s m below meth c A ls C hl hP hD hS => wkX5_goOn C z _ _ s.heap [] ls hz hP hD hS hl)

abbrev rmX5_remove : Room := { frames := 0, cells := 0, slots := 0, locals := 0 }
theorem inX5_remove_X5 : ∀ w ∈ wsX50, w ∈ wsX5_remove := by decide +kernel
set_option maxRecDepth 100000 in
set_option maxHeartbeats 4000000 in
theorem wkX5_remove {p : Program} {l : Launch} {e : Env} {s : State} {m : MethodId} {args : Array Value} {below : List Frame} {meth : Method} {c : Code} {D : va_G} {cI : ClassId} {A : Nat → Prop} {a0 a1 a2 a3 a4 a5 a6 a7 a8 a9 a10 a11 a12 a13 : Nat} (C : cxt p s m args meth c cX5_remove none 2 RX5 wsX5_remove D vwCl [(cI, .int)] A) : ∀ (z : TM) (u : TM) (x1 : Int32) (H : Heap) (locs : List Loc) (ls : Array Slot), fX5_remove u x1 = some z → va_P D vwCl (wM a0 a1 a2 a3 a4 a5 a6 a7 a8 a9 a10 a11 a12 a13 cI u) H → va_D A (wM a0 a1 a2 a3 a4 a5 a6 a7 a8 a9 a10 a11 a12 a13 cI u) → va_S A s.heap H locs → lv_has ls 2 [(0, .ref a0), (1, .int x1)] → W p l e rmX5_remove s m args below meth c H locs 0 0 (MQ below (oV D vwCl [(cI, .int)] A (wM a0 a1 a2 a3 a4 a5 a6 a7 a8 a9 a10 a11 a12 a13 cI z)) args s 0 0 A) (F0 m 0 ls []) := by
  have C0 := C
  obtain ⟨hx, hb, hr, hml, hown, hts, hlocks, hK, hA⟩ := C
  intro z u x1 H locs ls hf hP hD hS hl
  unfold fX5_remove at hf
  refine lv_aload_n hx hb dX5_remove_0 rfl (lv_at hl 0 rfl) ?_
  refine va_get (D := D) (ci := 4) (v := .ref a12) (C := RX5) (T := TX5) (N := 27) hx hb hts inX5_remove_X5 hown hK hP 0 rfl rfl 17 (by decide) (hts (.fieldLink RX5 50 "BlockCacheModel" "counts" "[I") (by decide +kernel)) (fun _ h9 => h9) rfl dX5_remove_1 ?_
  refine lv_iconst (v := 1) hx hb dX5_remove_4 (by decide) ?_
  refine lv_dup2_11 hx hb dX5_remove_5 rfl rfl ?_
  obtain ⟨h_1, hf⟩ := pIn_out hf
  refine va_iald hx hb hK hP 12 0 rfl rfl h_1 dX5_remove_6 ?_
  refine lv_iconst (v := 1) hx hb dX5_remove_7 (by decide) ?_
  refine lv_isub hx hb dX5_remove_8 ?_
  obtain ⟨h_2, hf⟩ := pIn_out hf
  refine va_iast hx hb hK hP hD hS 12 0 rfl rfl h_2 dX5_remove_9 (fun H locs hP hD hS => ?_)
  obtain ⟨u_3, eu_3, hf⟩ := pLet_out hf
  replace hP : va_P D vwCl (wM a0 a1 a2 a3 a4 a5 a6 a7 a8 a9 a10 a11 a12 a13 cI u_3) H := by rw [eu_3]; exact hP
  replace hD : va_D A (wM a0 a1 a2 a3 a4 a5 a6 a7 a8 a9 a10 a11 a12 a13 cI u_3) := by rw [eu_3]; exact hD
  refine lv_aload_n hx hb dX5_remove_10 rfl (lv_at hl 0 rfl) ?_
  refine va_get (D := D) (ci := 4) (v := .ref a12) (C := RX5) (T := TX5) (N := 27) hx hb hts inX5_remove_X5 hown hK hP 0 rfl rfl 17 (by decide) (hts (.fieldLink RX5 50 "BlockCacheModel" "counts" "[I") (by decide +kernel)) (fun _ h9 => h9) rfl dX5_remove_11 ?_
  refine lv_iconst (v := 2) hx hb dX5_remove_14 (by decide) ?_
  refine lv_aload_n hx hb dX5_remove_15 rfl (lv_at hl 0 rfl) ?_
  refine va_get (D := D) (ci := 4) (v := .ref a12) (C := RX5) (T := TX5) (N := 27) hx hb hts inX5_remove_X5 hown hK hP 0 rfl rfl 17 (by decide) (hts (.fieldLink RX5 50 "BlockCacheModel" "counts" "[I") (by decide +kernel)) (fun _ h9 => h9) rfl dX5_remove_16 ?_
  refine lv_iconst (v := 2) hx hb dX5_remove_19 (by decide) ?_
  obtain ⟨h_4, hf⟩ := pIn_out hf
  refine va_iald hx hb hK hP 12 0 rfl rfl h_4 dX5_remove_20 ?_
  refine lv_aload_n hx hb dX5_remove_21 rfl (lv_at hl 0 rfl) ?_
  refine va_get (D := D) (ci := 4) (v := .ref a6) (C := RX5) (T := TX5) (N := 27) hx hb hts inX5_remove_X5 hown hK hP 0 rfl rfl 9 (by decide) (hts (.fieldLink RX5 29 "BlockCacheModel" "size" "[I") (by decide +kernel)) (fun _ h9 => h9) rfl dX5_remove_22 ?_
  refine lv_iload_n hx hb dX5_remove_25 rfl (lv_at hl 1 rfl) ?_
  obtain ⟨h_5, hf⟩ := pIn_out hf
  refine va_iald hx hb hK hP 6 0 rfl rfl h_5 dX5_remove_26 ?_
  refine lv_isub hx hb dX5_remove_27 ?_
  obtain ⟨h_6, hf⟩ := pIn_out hf
  refine va_iast hx hb hK hP hD hS 12 0 rfl rfl h_6 dX5_remove_28 (fun H locs hP hD hS => ?_)
  obtain ⟨u_7, eu_7, hf⟩ := pLet_out hf
  replace hP : va_P D vwCl (wM a0 a1 a2 a3 a4 a5 a6 a7 a8 a9 a10 a11 a12 a13 cI u_7) H := by rw [eu_7]; exact hP
  replace hD : va_D A (wM a0 a1 a2 a3 a4 a5 a6 a7 a8 a9 a10 a11 a12 a13 cI u_7) := by rw [eu_7]; exact hD
  refine lv_aload_n hx hb dX5_remove_29 rfl (lv_at hl 0 rfl) ?_
  refine va_get (D := D) (ci := 4) (v := .ref a6) (C := RX5) (T := TX5) (N := 27) hx hb hts inX5_remove_X5 hown hK hP 0 rfl rfl 9 (by decide) (hts (.fieldLink RX5 29 "BlockCacheModel" "size" "[I") (by decide +kernel)) (fun _ h9 => h9) rfl dX5_remove_30 ?_
  refine lv_iload_n hx hb dX5_remove_33 rfl (lv_at hl 1 rfl) ?_
  refine lv_iconst (v := 0) hx hb dX5_remove_34 (by decide) ?_
  obtain ⟨h_8, hf⟩ := pIn_out hf
  refine va_iast hx hb hK hP hD hS 6 0 rfl rfl h_8 dX5_remove_35 (fun H locs hP hD hS => ?_)
  obtain ⟨u_9, eu_9, hf⟩ := pLet_out hf
  replace hP : va_P D vwCl (wM a0 a1 a2 a3 a4 a5 a6 a7 a8 a9 a10 a11 a12 a13 cI u_9) H := by rw [eu_9]; exact hP
  replace hD : va_D A (wM a0 a1 a2 a3 a4 a5 a6 a7 a8 a9 a10 a11 a12 a13 cI u_9) := by rw [eu_9]; exact hD
  have hz := Option.some.inj hf
  subst hz
  exact gRetV hx hb hr hlocks hK hP hD hS rfl dX5_remove_36
theorem ctX5_remove (l : Launch) (D : va_G) (cI : ClassId) (a0 a1 a2 a3 a4 a5 a6 a7 a8 a9 a10 a11 a12 a13 : Nat) (u : TM) (x1 : Int32) (z : TM) (hz : fX5_remove u x1 = some z) : CtV l yX5_remove wsX5_remove rmX5_remove D vwCl [(cI, .int)] [.ref a0, .int x1] (wM a0 a1 a2 a3 a4 a5 a6 a7 a8 a9 a10 a11 a12 a13 cI u) (wM a0 a1 a2 a3 a4 a5 a6 a7 a8 a9 a10 a11 a12 a13 cI z) :=
  ctV_of (cc := cX5_remove) (maxL := 2) (ret := none) (by decide) rfl (Nat.le_of_ble_eq_true rfl) (fun p e s m below meth c A ls C hl hP hD hS => wkX5_remove C z _ _ s.heap [] ls hz hP hD hS hl)
abbrev rmX5_empty : Room := { frames := 1, cells := 0, slots := 0, locals := 21 }
theorem inX5_empty_X5 : ∀ w ∈ wsX50, w ∈ wsX5_empty := by decide +kernel
set_option maxRecDepth 100000 in
set_option maxHeartbeats 4000000 in
theorem wkX5_empty_b23 {p : Program} {l : Launch} {e : Env} {s : State} {m : MethodId} {args : Array Value} {below : List Frame} {meth : Method} {c : Code} {D : va_G} {cI : ClassId} {A : Nat → Prop} {a0 a1 a2 a3 a4 a5 a6 a7 a8 a9 a10 a11 a12 a13 : Nat} (C : cxt p s m args meth c cX5_empty none 2 RX5 wsX5_empty D vwCl [(cI, .int)] A) {K2 : TM → Int32 → Option (TM)} (hK2 : ∀ (z : TM) (u : TM) (x1 : Int32) (H : Heap) (locs : List Loc) (ls : Array Slot), K2 u x1 = some z → va_P D vwCl (wM a0 a1 a2 a3 a4 a5 a6 a7 a8 a9 a10 a11 a12 a13 cI u) H → va_D A (wM a0 a1 a2 a3 a4 a5 a6 a7 a8 a9 a10 a11 a12 a13 cI u) → va_S A s.heap H locs → lv_has ls 2 [(0, .ref a0), (1, .int x1)] → W p l e rmX5_empty s m args below meth c H locs 0 0 (MQ below (oV D vwCl [(cI, .int)] A (wM a0 a1 a2 a3 a4 a5 a6 a7 a8 a9 a10 a11 a12 a13 cI z)) args s 0 0 A) (F0 m 2 ls [])) : ∀ (z : TM) (u : TM) (x1 : Int32) (H : Heap) (locs : List Loc) (ls : Array Slot), fX5_empty_b23 K2 u x1 = some z → va_P D vwCl (wM a0 a1 a2 a3 a4 a5 a6 a7 a8 a9 a10 a11 a12 a13 cI u) H → va_D A (wM a0 a1 a2 a3 a4 a5 a6 a7 a8 a9 a10 a11 a12 a13 cI u) → va_S A s.heap H locs → lv_has ls 2 [(0, .ref a0), (1, .int x1)] → W p l e rmX5_empty s m args below meth c H locs 0 0 (MQ below (oV D vwCl [(cI, .int)] A (wM a0 a1 a2 a3 a4 a5 a6 a7 a8 a9 a10 a11 a12 a13 cI z)) args s 0 0 A) (F0 m 23 ls []) := by
  have C0 := C
  obtain ⟨hx, hb, hr, hml, hown, hts, hlocks, hK, hA⟩ := C
  intro z u x1 H locs ls hf hP hD hS hl
  unfold fX5_empty_b23 at hf
  obtain ⟨x_1, ex_1, hf⟩ := pLet_out hf
  refine lv_iinc (v := x_1) (lv' := [(1, .int x_1), (0, .ref a0)]) hx hb dX5_empty_23 hl (k := 1) rfl (by rw [ex_1]; rfl) (by decide) rfl (fun ls hl => ?_)
  refine lv_goto (tgt := 2) hx hb dX5_empty_26 (by decide) ?_
  exact hK2 _ _ _ H locs ls hf hP hD hS (lv_sub hl [1, 0] rfl)
set_option maxRecDepth 100000 in
set_option maxHeartbeats 4000000 in
theorem wkX5_empty_b2 {p : Program} {l : Launch} {e : Env} {s : State} {m : MethodId} {args : Array Value} {below : List Frame} {meth : Method} {c : Code} {D : va_G} {cI : ClassId} {A : Nat → Prop} {a0 a1 a2 a3 a4 a5 a6 a7 a8 a9 a10 a11 a12 a13 : Nat} (C : cxt p s m args meth c cX5_empty none 2 RX5 wsX5_empty D vwCl [(cI, .int)] A) : ∀ (fu : Nat) (z : TM) (u : TM) (x1 : Int32) (H : Heap) (locs : List Loc) (ls : Array Slot), fX5_empty_b2 fu u x1 = some z → va_P D vwCl (wM a0 a1 a2 a3 a4 a5 a6 a7 a8 a9 a10 a11 a12 a13 cI u) H → va_D A (wM a0 a1 a2 a3 a4 a5 a6 a7 a8 a9 a10 a11 a12 a13 cI u) → va_S A s.heap H locs → lv_has ls 2 [(0, .ref a0), (1, .int x1)] → W p l e rmX5_empty s m args below meth c H locs 0 0 (MQ below (oV D vwCl [(cI, .int)] A (wM a0 a1 a2 a3 a4 a5 a6 a7 a8 a9 a10 a11 a12 a13 cI z)) args s 0 0 A) (F0 m 2 ls []) := by
  have C0 := C
  obtain ⟨hx, hb, hr, hml, hown, hts, hlocks, hK, hA⟩ := C
  intro fu
  induction fu with
  | zero =>
    intro z u x1 H locs ls hf hP hD hS hl
    cases hf
  | succ nn ih =>
    intro z u x1 H locs ls hf hP hD hS hl
    simp only [fX5_empty_b2] at hf
    refine lv_iload_n hx hb dX5_empty_2 rfl (lv_at hl 1 rfl) ?_
    refine lv_sipush (v := 256) hx hb dX5_empty_3 (by decide) ?_
    refine lv_icmp_ge (tgt := 29) hx hb dX5_empty_6 (by decide) (fun c_1 => ?_) (fun c_1 => ?_)
    · replace hf := pI_t c_1 hf
      have hz := Option.some.inj hf
      subst hz
      exact gRetV hx hb hr hlocks hK hP hD hS rfl dX5_empty_29
    · replace hf := pI_f c_1 hf
      refine lv_aload_n hx hb dX5_empty_9 rfl (lv_at hl 0 rfl) ?_
      refine va_get (D := D) (ci := 4) (v := .ref a6) (C := RX5) (T := TX5) (N := 27) hx hb hts inX5_empty_X5 hown hK hP 0 rfl rfl 9 (by decide) (hts (.fieldLink RX5 29 "BlockCacheModel" "size" "[I") (by decide +kernel)) (fun _ h9 => h9) rfl dX5_empty_10 ?_
      refine lv_iload_n hx hb dX5_empty_13 rfl (lv_at hl 1 rfl) ?_
      obtain ⟨h_2, hf⟩ := pIn_out hf
      refine va_iald hx hb hK hP 6 0 rfl rfl h_2 dX5_empty_14 ?_
      refine lv_if_le (tgt := 23) hx hb dX5_empty_15 (by decide) (fun c_3 => ?_) (fun c_3 => ?_)
      · replace hf := pI_t c_3 hf
        exact wkX5_empty_b23 C0 ih _ _ _ H locs ls hf hP hD hS (lv_sub hl [0, 1] rfl)
      · replace hf := pI_f c_3 hf
        refine lv_aload_n hx hb dX5_empty_18 rfl (lv_at hl 0 rfl) ?_
        refine lv_iload_n hx hb dX5_empty_19 rfl (lv_at hl 1 rfl) ?_
        obtain ⟨z_4, hz_4, hf⟩ := pB_out hf
        refine gV (w' := (wM a0 a1 a2 a3 a4 a5 a6 a7 a8 a9 a10 a11 a12 a13 cI z_4)) (va_runV (As := [.int x1]) (rest := []) ⟨hx, hb, hml, hown, hts⟩ (ctX5_remove l D cI a0 a1 a2 a3 a4 a5 a6 a7 a8 a9 a10 a11 a12 a13 u x1 z_4 hz_4 H.size) (cwV 1 hts gX5_empty_X5_remove rfl rfl rfl (by decide +kernel) ⟨Nat.le_of_ble_eq_true rfl, Nat.le_of_ble_eq_true rfl⟩) (gPreV (ci := 4) (C := RX5) (T := TX5) (N := 27) hP hK hD [0, 1, 2, 3, 4, 5, 6, 7, 8, 9, 10, 11, 12, 13] (by decide) rfl 0 rfl rfl) rfl rfl hl.1 rfl (lv_room (Nat.le_of_ble_eq_true rfl)) dX5_empty_20 ⟨Nat.le_of_ble_eq_true rfl, Nat.le_of_ble_eq_true rfl⟩) hP hD hS hA [0, 1, 2, 3, 4, 5, 6, 7, 8, 9, 10, 11, 12, 13] [] [0, 1, 2, 3, 4, 5, 6, 7, 8, 9, 10, 11, 12, 13] rfl rfl (by decide) (by decide) rfl (by decide) (fun H locs hP hD hS => ?_)
        exact wkX5_empty_b23 C0 ih _ _ _ H locs ls hf hP hD hS (lv_sub hl [0, 1] rfl)
set_option maxRecDepth 100000 in
set_option maxHeartbeats 4000000 in
theorem wkX5_empty {p : Program} {l : Launch} {e : Env} {s : State} {m : MethodId} {args : Array Value} {below : List Frame} {meth : Method} {c : Code} {D : va_G} {cI : ClassId} {A : Nat → Prop} {a0 a1 a2 a3 a4 a5 a6 a7 a8 a9 a10 a11 a12 a13 : Nat} (C : cxt p s m args meth c cX5_empty none 2 RX5 wsX5_empty D vwCl [(cI, .int)] A) : ∀ (z : TM) (u : TM) (H : Heap) (locs : List Loc) (ls : Array Slot), fX5_empty u = some z → va_P D vwCl (wM a0 a1 a2 a3 a4 a5 a6 a7 a8 a9 a10 a11 a12 a13 cI u) H → va_D A (wM a0 a1 a2 a3 a4 a5 a6 a7 a8 a9 a10 a11 a12 a13 cI u) → va_S A s.heap H locs → lv_has ls 2 [(0, .ref a0)] → W p l e rmX5_empty s m args below meth c H locs 0 0 (MQ below (oV D vwCl [(cI, .int)] A (wM a0 a1 a2 a3 a4 a5 a6 a7 a8 a9 a10 a11 a12 a13 cI z)) args s 0 0 A) (F0 m 0 ls []) := by
  have C0 := C
  obtain ⟨hx, hb, hr, hml, hown, hts, hlocks, hK, hA⟩ := C
  intro z u H locs ls hf hP hD hS hl
  unfold fX5_empty at hf
  refine lv_iconst (v := 0) hx hb dX5_empty_0 (by decide) ?_
  refine lv_istore_n (lv' := [(1, .int 0), (0, .ref a0)]) hx hb dX5_empty_1 rfl hl (by decide) rfl (fun ls hl => ?_)
  exact wkX5_empty_b2 C0 fuelX5_empty_2 _ _ _ H locs ls hf hP hD hS (lv_sub hl [1, 0] rfl)
theorem ctX5_empty (l : Launch) (D : va_G) (cI : ClassId) (a0 a1 a2 a3 a4 a5 a6 a7 a8 a9 a10 a11 a12 a13 : Nat) (u : TM) (z : TM) (hz : fX5_empty u = some z) : CtV l yX5_empty wsX5_empty rmX5_empty D vwCl [(cI, .int)] [.ref a0] (wM a0 a1 a2 a3 a4 a5 a6 a7 a8 a9 a10 a11 a12 a13 cI u) (wM a0 a1 a2 a3 a4 a5 a6 a7 a8 a9 a10 a11 a12 a13 cI z) :=
  ctV_of (cc := cX5_empty) (maxL := 2) (ret := none) (by decide) rfl (Nat.le_of_ble_eq_true rfl) (fun p e s m below meth c A ls C hl hP hD hS => wkX5_empty C z _ s.heap [] ls hz hP hD hS hl)
abbrev rmX5_invalidate : Room := { frames := 1, cells := 0, slots := 0, locals := 21 }
theorem inX5_invalidate_X5 : ∀ w ∈ wsX50, w ∈ wsX5_invalidate := by decide +kernel
set_option maxRecDepth 100000 in
set_option maxHeartbeats 4000000 in
theorem wkX5_invalidate_b45 {p : Program} {l : Launch} {e : Env} {s : State} {m : MethodId} {args : Array Value} {below : List Frame} {meth : Method} {c : Code} {D : va_G} {cI : ClassId} {A : Nat → Prop} {a0 a1 a2 a3 a4 a5 a6 a7 a8 a9 a10 a11 a12 a13 : Nat} (C : cxt p s m args meth c cX5_invalidate (some .int) 4 RX5 wsX5_invalidate D vwCl [(cI, .int)] A) {K4 : TM → Int32 → Int32 → Int32 → Option (Int32 × TM)} (hK4 : ∀ (z : Int32 × TM) (u : TM) (x1 : Int32) (x2 : Int32) (x3 : Int32) (H : Heap) (locs : List Loc) (ls : Array Slot), K4 u x1 x2 x3 = some z → va_P D vwCl (wM a0 a1 a2 a3 a4 a5 a6 a7 a8 a9 a10 a11 a12 a13 cI u) H → va_D A (wM a0 a1 a2 a3 a4 a5 a6 a7 a8 a9 a10 a11 a12 a13 cI u) → va_S A s.heap H locs → lv_has ls 4 [(0, .ref a0), (1, .int x1), (2, .int x2), (3, .int x3)] → W p l e rmX5_invalidate s m args below meth c H locs 0 0 (MQ below (oI D vwCl [(cI, .int)] A z.1 (wM a0 a1 a2 a3 a4 a5 a6 a7 a8 a9 a10 a11 a12 a13 cI z.2)) args s 0 0 A) (F0 m 4 ls [])) : ∀ (z : Int32 × TM) (u : TM) (x1 : Int32) (x2 : Int32) (x3 : Int32) (H : Heap) (locs : List Loc) (ls : Array Slot), fX5_invalidate_b45 K4 u x1 x2 x3 = some z → va_P D vwCl (wM a0 a1 a2 a3 a4 a5 a6 a7 a8 a9 a10 a11 a12 a13 cI u) H → va_D A (wM a0 a1 a2 a3 a4 a5 a6 a7 a8 a9 a10 a11 a12 a13 cI u) → va_S A s.heap H locs → lv_has ls 4 [(0, .ref a0), (1, .int x1), (2, .int x2), (3, .int x3)] → W p l e rmX5_invalidate s m args below meth c H locs 0 0 (MQ below (oI D vwCl [(cI, .int)] A z.1 (wM a0 a1 a2 a3 a4 a5 a6 a7 a8 a9 a10 a11 a12 a13 cI z.2)) args s 0 0 A) (F0 m 45 ls []) := by
  have C0 := C
  obtain ⟨hx, hb, hr, hml, hown, hts, hlocks, hK, hA⟩ := C
  intro z u x1 x2 x3 H locs ls hf hP hD hS hl
  unfold fX5_invalidate_b45 at hf
  obtain ⟨x_1, ex_1, hf⟩ := pLet_out hf
  refine lv_iinc (v := x_1) (lv' := [(3, .int x_1), (0, .ref a0), (1, .int x1), (2, .int x2)]) hx hb dX5_invalidate_45 hl (k := 3) rfl (by rw [ex_1]; rfl) (by decide) rfl (fun ls hl => ?_)
  refine lv_goto (tgt := 4) hx hb dX5_invalidate_48 (by decide) ?_
  exact hK4 _ _ _ _ _ H locs ls hf hP hD hS (lv_sub hl [1, 2, 3, 0] rfl)
set_option maxRecDepth 100000 in
set_option maxHeartbeats 4000000 in
theorem wkX5_invalidate_b4 {p : Program} {l : Launch} {e : Env} {s : State} {m : MethodId} {args : Array Value} {below : List Frame} {meth : Method} {c : Code} {D : va_G} {cI : ClassId} {A : Nat → Prop} {a0 a1 a2 a3 a4 a5 a6 a7 a8 a9 a10 a11 a12 a13 : Nat} (C : cxt p s m args meth c cX5_invalidate (some .int) 4 RX5 wsX5_invalidate D vwCl [(cI, .int)] A) : ∀ (fu : Nat) (z : Int32 × TM) (u : TM) (x1 : Int32) (x2 : Int32) (x3 : Int32) (H : Heap) (locs : List Loc) (ls : Array Slot), fX5_invalidate_b4 fu u x1 x2 x3 = some z → va_P D vwCl (wM a0 a1 a2 a3 a4 a5 a6 a7 a8 a9 a10 a11 a12 a13 cI u) H → va_D A (wM a0 a1 a2 a3 a4 a5 a6 a7 a8 a9 a10 a11 a12 a13 cI u) → va_S A s.heap H locs → lv_has ls 4 [(0, .ref a0), (1, .int x1), (2, .int x2), (3, .int x3)] → W p l e rmX5_invalidate s m args below meth c H locs 0 0 (MQ below (oI D vwCl [(cI, .int)] A z.1 (wM a0 a1 a2 a3 a4 a5 a6 a7 a8 a9 a10 a11 a12 a13 cI z.2)) args s 0 0 A) (F0 m 4 ls []) := by
  have C0 := C
  obtain ⟨hx, hb, hr, hml, hown, hts, hlocks, hK, hA⟩ := C
  intro fu
  induction fu with
  | zero =>
    intro z u x1 x2 x3 H locs ls hf hP hD hS hl
    cases hf
  | succ nn ih =>
    intro z u x1 x2 x3 H locs ls hf hP hD hS hl
    simp only [fX5_invalidate_b4] at hf
    refine lv_iload_n hx hb dX5_invalidate_4 rfl (lv_at hl 3 rfl) ?_
    refine lv_sipush (v := 256) hx hb dX5_invalidate_5 (by decide) ?_
    refine lv_icmp_ge (tgt := 51) hx hb dX5_invalidate_8 (by decide) (fun c_1 => ?_) (fun c_1 => ?_)
    · replace hf := pI_t c_1 hf
      refine lv_iload_n hx hb dX5_invalidate_51 rfl (lv_at hl 2 rfl) ?_
      have hz := Option.some.inj hf
      subst hz
      exact gRetI hx hb hr hlocks hK hP hD hS rfl rfl dX5_invalidate_52
    · replace hf := pI_f c_1 hf
      refine lv_aload_n hx hb dX5_invalidate_11 rfl (lv_at hl 0 rfl) ?_
      refine va_get (D := D) (ci := 4) (v := .ref a6) (C := RX5) (T := TX5) (N := 27) hx hb hts inX5_invalidate_X5 hown hK hP 0 rfl rfl 9 (by decide) (hts (.fieldLink RX5 29 "BlockCacheModel" "size" "[I") (by decide +kernel)) (fun _ h9 => h9) rfl dX5_invalidate_12 ?_
      refine lv_iload_n hx hb dX5_invalidate_15 rfl (lv_at hl 3 rfl) ?_
      obtain ⟨h_2, hf⟩ := pIn_out hf
      refine va_iald hx hb hK hP 6 0 rfl rfl h_2 dX5_invalidate_16 ?_
      refine lv_if_le (tgt := 45) hx hb dX5_invalidate_17 (by decide) (fun c_3 => ?_) (fun c_3 => ?_)
      · replace hf := pI_t c_3 hf
        exact wkX5_invalidate_b45 C0 ih _ _ _ _ _ H locs ls hf hP hD hS (lv_sub hl [0, 1, 2, 3] rfl)
      · replace hf := pI_f c_3 hf
        refine lv_aload_n hx hb dX5_invalidate_20 rfl (lv_at hl 0 rfl) ?_
        refine va_get (D := D) (ci := 4) (v := .ref a8) (C := RX5) (T := TX5) (N := 27) hx hb hts inX5_invalidate_X5 hown hK hP 0 rfl rfl 11 (by decide) (hts (.fieldLink RX5 35 "BlockCacheModel" "pages" "[I") (by decide +kernel)) (fun _ h9 => h9) rfl dX5_invalidate_21 ?_
        refine lv_iload_n hx hb dX5_invalidate_24 rfl (lv_at hl 3 rfl) ?_
        obtain ⟨h_4, hf⟩ := pIn_out hf
        refine va_iald hx hb hK hP 8 0 rfl rfl h_4 dX5_invalidate_25 ?_
        refine lv_iload_n hx hb dX5_invalidate_26 rfl (lv_at hl 1 rfl) ?_
        refine lv_bipush (v := 32) hx hb dX5_invalidate_27 (by decide) ?_
        refine lv_idiv hx hb dX5_invalidate_29 (by decide) ?_
        refine lv_ishr hx hb dX5_invalidate_30 ?_
        refine lv_iconst (v := 1) hx hb dX5_invalidate_31 (by decide) ?_
        refine lv_iand hx hb dX5_invalidate_32 ?_
        refine lv_iconst (v := 1) hx hb dX5_invalidate_33 (by decide) ?_
        refine lv_icmp_ne (tgt := 45) hx hb dX5_invalidate_34 (by decide) (fun c_5 => ?_) (fun c_5 => ?_)
        · replace hf := pI_f c_5 hf
          exact wkX5_invalidate_b45 C0 ih _ _ _ _ _ H locs ls hf hP hD hS (lv_sub hl [0, 1, 2, 3] rfl)
        · replace hf := pI_t c_5 hf
          refine lv_aload_n hx hb dX5_invalidate_37 rfl (lv_at hl 0 rfl) ?_
          refine lv_iload_n hx hb dX5_invalidate_38 rfl (lv_at hl 3 rfl) ?_
          obtain ⟨z_6, hz_6, hf⟩ := pB_out hf
          refine gV (w' := (wM a0 a1 a2 a3 a4 a5 a6 a7 a8 a9 a10 a11 a12 a13 cI z_6)) (va_runV (As := [.int x3]) (rest := []) ⟨hx, hb, hml, hown, hts⟩ (ctX5_remove l D cI a0 a1 a2 a3 a4 a5 a6 a7 a8 a9 a10 a11 a12 a13 u x3 z_6 hz_6 H.size) (cwV 1 hts gX5_invalidate_X5_remove rfl rfl rfl (by decide +kernel) ⟨Nat.le_of_ble_eq_true rfl, Nat.le_of_ble_eq_true rfl⟩) (gPreV (ci := 4) (C := RX5) (T := TX5) (N := 27) hP hK hD [0, 1, 2, 3, 4, 5, 6, 7, 8, 9, 10, 11, 12, 13] (by decide) rfl 0 rfl rfl) rfl rfl hl.1 rfl (lv_room (Nat.le_of_ble_eq_true rfl)) dX5_invalidate_39 ⟨Nat.le_of_ble_eq_true rfl, Nat.le_of_ble_eq_true rfl⟩) hP hD hS hA [0, 1, 2, 3, 4, 5, 6, 7, 8, 9, 10, 11, 12, 13] [] [0, 1, 2, 3, 4, 5, 6, 7, 8, 9, 10, 11, 12, 13] rfl rfl (by decide) (by decide) rfl (by decide) (fun H locs hP hD hS => ?_)
          obtain ⟨x_7, ex_7, hf⟩ := pLet_out hf
          refine lv_iinc (v := x_7) (lv' := [(2, .int x_7), (0, .ref a0), (1, .int x1), (3, .int x3)]) hx hb dX5_invalidate_42 hl (k := 2) rfl (by rw [ex_7]; rfl) (by decide) rfl (fun ls hl => ?_)
          exact wkX5_invalidate_b45 C0 ih _ _ _ _ _ H locs ls hf hP hD hS (lv_sub hl [1, 2, 0, 3] rfl)
set_option maxRecDepth 100000 in
set_option maxHeartbeats 4000000 in
theorem wkX5_invalidate {p : Program} {l : Launch} {e : Env} {s : State} {m : MethodId} {args : Array Value} {below : List Frame} {meth : Method} {c : Code} {D : va_G} {cI : ClassId} {A : Nat → Prop} {a0 a1 a2 a3 a4 a5 a6 a7 a8 a9 a10 a11 a12 a13 : Nat} (C : cxt p s m args meth c cX5_invalidate (some .int) 4 RX5 wsX5_invalidate D vwCl [(cI, .int)] A) : ∀ (z : Int32 × TM) (u : TM) (x1 : Int32) (H : Heap) (locs : List Loc) (ls : Array Slot), fX5_invalidate u x1 = some z → va_P D vwCl (wM a0 a1 a2 a3 a4 a5 a6 a7 a8 a9 a10 a11 a12 a13 cI u) H → va_D A (wM a0 a1 a2 a3 a4 a5 a6 a7 a8 a9 a10 a11 a12 a13 cI u) → va_S A s.heap H locs → lv_has ls 4 [(0, .ref a0), (1, .int x1)] → W p l e rmX5_invalidate s m args below meth c H locs 0 0 (MQ below (oI D vwCl [(cI, .int)] A z.1 (wM a0 a1 a2 a3 a4 a5 a6 a7 a8 a9 a10 a11 a12 a13 cI z.2)) args s 0 0 A) (F0 m 0 ls []) := by
  have C0 := C
  obtain ⟨hx, hb, hr, hml, hown, hts, hlocks, hK, hA⟩ := C
  intro z u x1 H locs ls hf hP hD hS hl
  unfold fX5_invalidate at hf
  refine lv_iconst (v := 0) hx hb dX5_invalidate_0 (by decide) ?_
  refine lv_istore_n (lv' := [(2, .int 0), (0, .ref a0), (1, .int x1)]) hx hb dX5_invalidate_1 rfl hl (by decide) rfl (fun ls hl => ?_)
  refine lv_iconst (v := 0) hx hb dX5_invalidate_2 (by decide) ?_
  refine lv_istore_n (lv' := [(3, .int 0), (2, .int 0), (0, .ref a0), (1, .int x1)]) hx hb dX5_invalidate_3 rfl hl (by decide) rfl (fun ls hl => ?_)
  exact wkX5_invalidate_b4 C0 fuelX5_invalidate_4 _ _ _ _ _ H locs ls hf hP hD hS (lv_sub hl [2, 3, 1, 0] rfl)
theorem ctX5_invalidate (l : Launch) (D : va_G) (cI : ClassId) (a0 a1 a2 a3 a4 a5 a6 a7 a8 a9 a10 a11 a12 a13 : Nat) (u : TM) (x1 : Int32) (z : Int32 × TM) (hz : fX5_invalidate u x1 = some z) : CtI l yX5_invalidate wsX5_invalidate rmX5_invalidate D vwCl [(cI, .int)] [.ref a0, .int x1] (wM a0 a1 a2 a3 a4 a5 a6 a7 a8 a9 a10 a11 a12 a13 cI u) z.1 (wM a0 a1 a2 a3 a4 a5 a6 a7 a8 a9 a10 a11 a12 a13 cI z.2) :=
  ctI_of (cc := cX5_invalidate) (maxL := 4) (ret := (some .int)) (by decide) rfl (Nat.le_of_ble_eq_true rfl) (fun p e s m below meth c A ls C hl hP hD hS => wkX5_invalidate C z _ _ s.heap [] ls hz hP hD hS hl)
abbrev rmX5_write : Room := { frames := 2, cells := 0, slots := 0, locals := 44 }
theorem inX5_write_X5 : ∀ w ∈ wsX50, w ∈ wsX5_write := by decide +kernel
set_option maxRecDepth 100000 in
set_option maxHeartbeats 4000000 in
theorem wkX5_write {p : Program} {l : Launch} {e : Env} {s : State} {m : MethodId} {args : Array Value} {below : List Frame} {meth : Method} {c : Code} {D : va_G} {cI : ClassId} {A : Nat → Prop} {a0 a1 a2 a3 a4 a5 a6 a7 a8 a9 a10 a11 a12 a13 : Nat} (C : cxt p s m args meth c cX5_write none 3 RX5 wsX5_write D vwCl [(cI, .int)] A) : ∀ (z : TM) (u : TM) (x1 : Int32) (x2 : Int32) (H : Heap) (locs : List Loc) (ls : Array Slot), fX5_write u x1 x2 = some z → va_P D vwCl (wM a0 a1 a2 a3 a4 a5 a6 a7 a8 a9 a10 a11 a12 a13 cI u) H → va_D A (wM a0 a1 a2 a3 a4 a5 a6 a7 a8 a9 a10 a11 a12 a13 cI u) → va_S A s.heap H locs → lv_has ls 3 [(0, .ref a0), (1, .int x1), (2, .int x2)] → W p l e rmX5_write s m args below meth c H locs 0 0 (MQ below (oV D vwCl [(cI, .int)] A (wM a0 a1 a2 a3 a4 a5 a6 a7 a8 a9 a10 a11 a12 a13 cI z)) args s 0 0 A) (F0 m 0 ls []) := by
  have C0 := C
  obtain ⟨hx, hb, hr, hml, hown, hts, hlocks, hK, hA⟩ := C
  intro z u x1 x2 H locs ls hf hP hD hS hl
  unfold fX5_write at hf
  refine lv_aload_n hx hb dX5_write_0 rfl (lv_at hl 0 rfl) ?_
  refine va_get (D := D) (ci := 4) (v := .ref a1) (C := RX5) (T := TX5) (N := 27) hx hb hts inX5_write_X5 hown hK hP 0 rfl rfl 1 (by decide) (hts (.fieldLink RX5 7 "BlockCacheModel" "memory" "[I") (by decide +kernel)) (fun _ h9 => h9) rfl dX5_write_1 ?_
  refine lv_iload_n hx hb dX5_write_4 rfl (lv_at hl 1 rfl) ?_
  refine lv_iload_n hx hb dX5_write_5 rfl (lv_at hl 2 rfl) ?_
  obtain ⟨h_1, hf⟩ := pIn_out hf
  refine va_iast hx hb hK hP hD hS 1 0 rfl rfl h_1 dX5_write_6 (fun H locs hP hD hS => ?_)
  obtain ⟨u_2, eu_2, hf⟩ := pLet_out hf
  replace hP : va_P D vwCl (wM a0 a1 a2 a3 a4 a5 a6 a7 a8 a9 a10 a11 a12 a13 cI u_2) H := by rw [eu_2]; exact hP
  replace hD : va_D A (wM a0 a1 a2 a3 a4 a5 a6 a7 a8 a9 a10 a11 a12 a13 cI u_2) := by rw [eu_2]; exact hD
  refine lv_aload_n hx hb dX5_write_7 rfl (lv_at hl 0 rfl) ?_
  refine va_get (D := D) (ci := 4) (v := .ref a12) (C := RX5) (T := TX5) (N := 27) hx hb hts inX5_write_X5 hown hK hP 0 rfl rfl 17 (by decide) (hts (.fieldLink RX5 50 "BlockCacheModel" "counts" "[I") (by decide +kernel)) (fun _ h9 => h9) rfl dX5_write_8 ?_
  refine lv_iconst (v := 4) hx hb dX5_write_11 (by decide) ?_
  refine lv_aload_n hx hb dX5_write_12 rfl (lv_at hl 0 rfl) ?_
  refine va_get (D := D) (ci := 4) (v := .ref a12) (C := RX5) (T := TX5) (N := 27) hx hb hts inX5_write_X5 hown hK hP 0 rfl rfl 17 (by decide) (hts (.fieldLink RX5 50 "BlockCacheModel" "counts" "[I") (by decide +kernel)) (fun _ h9 => h9) rfl dX5_write_13 ?_
  refine lv_iconst (v := 4) hx hb dX5_write_16 (by decide) ?_
  obtain ⟨h_3, hf⟩ := pIn_out hf
  refine va_iald hx hb hK hP 12 0 rfl rfl h_3 dX5_write_17 ?_
  refine lv_aload_n hx hb dX5_write_18 rfl (lv_at hl 0 rfl) ?_
  refine lv_iload_n hx hb dX5_write_19 rfl (lv_at hl 1 rfl) ?_
  obtain ⟨z_4, hz_4, hf⟩ := pB_out hf
  refine gI (w' := (wM a0 a1 a2 a3 a4 a5 a6 a7 a8 a9 a10 a11 a12 a13 cI z_4.2)) (va_runV (As := [.int x1]) (rest := [.int ((gM_counts u_2) ((4 : Int32)).toNatClampNeg), .int 4, .ref a12]) ⟨hx, hb, hml, hown, hts⟩ (ctX5_invalidate l D cI a0 a1 a2 a3 a4 a5 a6 a7 a8 a9 a10 a11 a12 a13 u_2 x1 z_4 hz_4 H.size) (cwV 1 hts gX5_write_X5_invalidate rfl rfl rfl (by decide +kernel) ⟨Nat.le_of_ble_eq_true rfl, Nat.le_of_ble_eq_true rfl⟩) (gPreV (ci := 4) (C := RX5) (T := TX5) (N := 27) hP hK hD [0, 1, 2, 3, 4, 5, 6, 7, 8, 9, 10, 11, 12, 13] (by decide) rfl 0 rfl rfl) rfl rfl hl.1 rfl (lv_room (Nat.le_of_ble_eq_true rfl)) dX5_write_20 ⟨Nat.le_of_ble_eq_true rfl, Nat.le_of_ble_eq_true rfl⟩) hP hD hS hA [0, 1, 2, 3, 4, 5, 6, 7, 8, 9, 10, 11, 12, 13] [] [0, 1, 2, 3, 4, 5, 6, 7, 8, 9, 10, 11, 12, 13] rfl rfl (by decide) (by decide) rfl (by decide) (fun H locs hP hD hS => ?_)
  refine lv_iadd hx hb dX5_write_23 ?_
  obtain ⟨h_5, hf⟩ := pIn_out hf
  refine va_iast hx hb hK hP hD hS 12 0 rfl rfl h_5 dX5_write_24 (fun H locs hP hD hS => ?_)
  obtain ⟨u_6, eu_6, hf⟩ := pLet_out hf
  replace hP : va_P D vwCl (wM a0 a1 a2 a3 a4 a5 a6 a7 a8 a9 a10 a11 a12 a13 cI u_6) H := by rw [eu_6]; exact hP
  replace hD : va_D A (wM a0 a1 a2 a3 a4 a5 a6 a7 a8 a9 a10 a11 a12 a13 cI u_6) := by rw [eu_6]; exact hD
  have hz := Option.some.inj hf
  subst hz
  exact gRetV hx hb hr hlocks hK hP hD hS rfl dX5_write_25
theorem ctX5_write (l : Launch) (D : va_G) (cI : ClassId) (a0 a1 a2 a3 a4 a5 a6 a7 a8 a9 a10 a11 a12 a13 : Nat) (u : TM) (x1 : Int32) (x2 : Int32) (z : TM) (hz : fX5_write u x1 x2 = some z) : CtV l yX5_write wsX5_write rmX5_write D vwCl [(cI, .int)] [.ref a0, .int x1, .int x2] (wM a0 a1 a2 a3 a4 a5 a6 a7 a8 a9 a10 a11 a12 a13 cI u) (wM a0 a1 a2 a3 a4 a5 a6 a7 a8 a9 a10 a11 a12 a13 cI z) :=
  ctV_of (cc := cX5_write) (maxL := 3) (ret := none) (by decide) rfl (Nat.le_of_ble_eq_true rfl) (fun p e s m below meth c A ls C hl hP hD hS => wkX5_write C z _ _ _ s.heap [] ls hz hP hD hS hl)
abbrev rmX5_hasBlock : Room := { frames := 3, cells := 0, slots := 0, locals := 70 }
theorem inX5_hasBlock_X5 : ∀ w ∈ wsX50, w ∈ wsX5_hasBlock := by decide +kernel
set_option maxRecDepth 100000 in
set_option maxHeartbeats 4000000 in
theorem wkX5_hasBlock_b68 {p : Program} {l : Launch} {e : Env} {s : State} {m : MethodId} {args : Array Value} {below : List Frame} {meth : Method} {c : Code} {D : va_G} {cI : ClassId} {A : Nat → Prop} {a0 a1 a2 a3 a4 a5 a6 a7 a8 a9 a10 a11 a12 a13 : Nat} (C : cxt p s m args meth c cX5_hasBlock (some .boolean) 2 RX5 wsX5_hasBlock D vwCl [(cI, .int)] A) : ∀ (z : Int32 × TM) (u : TM) (x1 : Int32) (H : Heap) (locs : List Loc) (ls : Array Slot), fX5_hasBlock_b68 u x1 = some z → va_P D vwCl (wM a0 a1 a2 a3 a4 a5 a6 a7 a8 a9 a10 a11 a12 a13 cI u) H → va_D A (wM a0 a1 a2 a3 a4 a5 a6 a7 a8 a9 a10 a11 a12 a13 cI u) → va_S A s.heap H locs → lv_has ls 2 [(0, .ref a0), (1, .int x1)] → W p l e rmX5_hasBlock s m args below meth c H locs 0 0 (MQ below (oI D vwCl [(cI, .int)] A z.1 (wM a0 a1 a2 a3 a4 a5 a6 a7 a8 a9 a10 a11 a12 a13 cI z.2)) args s 0 0 A) (F0 m 68 ls []) := by
  have C0 := C
  obtain ⟨hx, hb, hr, hml, hown, hts, hlocks, hK, hA⟩ := C
  intro z u x1 H locs ls hf hP hD hS hl
  unfold fX5_hasBlock_b68 at hf
  refine lv_aload_n hx hb dX5_hasBlock_68 rfl (lv_at hl 0 rfl) ?_
  refine va_get (D := D) (ci := 4) (v := .ref a6) (C := RX5) (T := TX5) (N := 27) hx hb hts inX5_hasBlock_X5 hown hK hP 0 rfl rfl 9 (by decide) (hts (.fieldLink RX5 29 "BlockCacheModel" "size" "[I") (by decide +kernel)) (fun _ h9 => h9) rfl dX5_hasBlock_69 ?_
  refine lv_iload_n hx hb dX5_hasBlock_72 rfl (lv_at hl 1 rfl) ?_
  refine lv_aload_n hx hb dX5_hasBlock_73 rfl (lv_at hl 0 rfl) ?_
  refine va_get (D := D) (ci := 4) (v := .int (gM_foundSize u)) (C := RX5) (T := TX5) (N := 27) hx hb hts inX5_hasBlock_X5 hown hK hP 0 rfl rfl 21 (by decide) (hts (.fieldLink RX5 79 "BlockCacheModel" "foundSize" "I") (by decide +kernel)) (fun _ h9 => h9) rfl dX5_hasBlock_74 ?_
  obtain ⟨h_1, hf⟩ := pIn_out hf
  refine va_iast hx hb hK hP hD hS 6 0 rfl rfl h_1 dX5_hasBlock_77 (fun H locs hP hD hS => ?_)
  obtain ⟨u_2, eu_2, hf⟩ := pLet_out hf
  replace hP : va_P D vwCl (wM a0 a1 a2 a3 a4 a5 a6 a7 a8 a9 a10 a11 a12 a13 cI u_2) H := by rw [eu_2]; exact hP
  replace hD : va_D A (wM a0 a1 a2 a3 a4 a5 a6 a7 a8 a9 a10 a11 a12 a13 cI u_2) := by rw [eu_2]; exact hD
  refine lv_aload_n hx hb dX5_hasBlock_78 rfl (lv_at hl 0 rfl) ?_
  refine va_get (D := D) (ci := 4) (v := .ref a7) (C := RX5) (T := TX5) (N := 27) hx hb hts inX5_hasBlock_X5 hown hK hP 0 rfl rfl 10 (by decide) (hts (.fieldLink RX5 32 "BlockCacheModel" "length" "[I") (by decide +kernel)) (fun _ h9 => h9) rfl dX5_hasBlock_79 ?_
  refine lv_iload_n hx hb dX5_hasBlock_82 rfl (lv_at hl 1 rfl) ?_
  refine lv_aload_n hx hb dX5_hasBlock_83 rfl (lv_at hl 0 rfl) ?_
  refine va_get (D := D) (ci := 4) (v := .int (gM_foundMany u_2)) (C := RX5) (T := TX5) (N := 27) hx hb hts inX5_hasBlock_X5 hown hK hP 0 rfl rfl 20 (by decide) (hts (.fieldLink RX5 76 "BlockCacheModel" "foundMany" "I") (by decide +kernel)) (fun _ h9 => h9) rfl dX5_hasBlock_84 ?_
  obtain ⟨h_3, hf⟩ := pIn_out hf
  refine va_iast hx hb hK hP hD hS 7 0 rfl rfl h_3 dX5_hasBlock_87 (fun H locs hP hD hS => ?_)
  obtain ⟨u_4, eu_4, hf⟩ := pLet_out hf
  replace hP : va_P D vwCl (wM a0 a1 a2 a3 a4 a5 a6 a7 a8 a9 a10 a11 a12 a13 cI u_4) H := by rw [eu_4]; exact hP
  replace hD : va_D A (wM a0 a1 a2 a3 a4 a5 a6 a7 a8 a9 a10 a11 a12 a13 cI u_4) := by rw [eu_4]; exact hD
  refine lv_aload_n hx hb dX5_hasBlock_88 rfl (lv_at hl 0 rfl) ?_
  refine va_get (D := D) (ci := 4) (v := .ref a8) (C := RX5) (T := TX5) (N := 27) hx hb hts inX5_hasBlock_X5 hown hK hP 0 rfl rfl 11 (by decide) (hts (.fieldLink RX5 35 "BlockCacheModel" "pages" "[I") (by decide +kernel)) (fun _ h9 => h9) rfl dX5_hasBlock_89 ?_
  refine lv_iload_n hx hb dX5_hasBlock_92 rfl (lv_at hl 1 rfl) ?_
  refine lv_aload_n hx hb dX5_hasBlock_93 rfl (lv_at hl 0 rfl) ?_
  refine va_get (D := D) (ci := 4) (v := .int (gM_foundPages u_4)) (C := RX5) (T := TX5) (N := 27) hx hb hts inX5_hasBlock_X5 hown hK hP 0 rfl rfl 22 (by decide) (hts (.fieldLink RX5 82 "BlockCacheModel" "foundPages" "I") (by decide +kernel)) (fun _ h9 => h9) rfl dX5_hasBlock_94 ?_
  obtain ⟨h_5, hf⟩ := pIn_out hf
  refine va_iast hx hb hK hP hD hS 8 0 rfl rfl h_5 dX5_hasBlock_97 (fun H locs hP hD hS => ?_)
  obtain ⟨u_6, eu_6, hf⟩ := pLet_out hf
  replace hP : va_P D vwCl (wM a0 a1 a2 a3 a4 a5 a6 a7 a8 a9 a10 a11 a12 a13 cI u_6) H := by rw [eu_6]; exact hP
  replace hD : va_D A (wM a0 a1 a2 a3 a4 a5 a6 a7 a8 a9 a10 a11 a12 a13 cI u_6) := by rw [eu_6]; exact hD
  refine lv_aload_n hx hb dX5_hasBlock_98 rfl (lv_at hl 0 rfl) ?_
  refine lv_dup hx hb dX5_hasBlock_99 rfl ?_
  refine va_get (D := D) (ci := 4) (v := .int (gM_translated u_6)) (C := RX5) (T := TX5) (N := 27) hx hb hts inX5_hasBlock_X5 hown hK hP 0 rfl rfl 16 (by decide) (hts (.fieldLink RX5 117 "BlockCacheModel" "translated" "I") (by decide +kernel)) (fun _ h9 => h9) rfl dX5_hasBlock_100 ?_
  refine lv_iconst (v := 1) hx hb dX5_hasBlock_103 (by decide) ?_
  refine lv_iadd hx hb dX5_hasBlock_104 ?_
  refine va_put (D := D) (ci := 4) (v := .int ((gM_translated u_6) + 1)) (ty := .int) (C := RX5) (T := TX5) (N := 27) hx hb hts inX5_hasBlock_X5 tyX5 tyX5_ok nmX5 hown hK hP hD hS 0 rfl rfl 16 (by decide) (hts (.fieldLink RX5 117 "BlockCacheModel" "translated" "I") (by decide +kernel)) (fun _ h9 => h9) rfl (by decide +kernel) rfl rfl (Nat.le_of_ble_eq_true rfl) dX5_hasBlock_105 (fun H locs hP hD hS => ?_)
  obtain ⟨u_7, eu_7, hf⟩ := pLet_out hf
  replace hP : va_P D vwCl (wM a0 a1 a2 a3 a4 a5 a6 a7 a8 a9 a10 a11 a12 a13 cI u_7) H := by rw [eu_7]; exact hP
  replace hD : va_D A (wM a0 a1 a2 a3 a4 a5 a6 a7 a8 a9 a10 a11 a12 a13 cI u_7) := by rw [eu_7]; exact hD
  refine lv_aload_n hx hb dX5_hasBlock_108 rfl (lv_at hl 0 rfl) ?_
  refine va_get (D := D) (ci := 4) (v := .ref a9) (C := RX5) (T := TX5) (N := 27) hx hb hts inX5_hasBlock_X5 hown hK hP 0 rfl rfl 12 (by decide) (hts (.fieldLink RX5 38 "BlockCacheModel" "which" "[I") (by decide +kernel)) (fun _ h9 => h9) rfl dX5_hasBlock_109 ?_
  refine lv_iload_n hx hb dX5_hasBlock_112 rfl (lv_at hl 1 rfl) ?_
  refine lv_aload_n hx hb dX5_hasBlock_113 rfl (lv_at hl 0 rfl) ?_
  refine va_get (D := D) (ci := 4) (v := .int (gM_translated u_7)) (C := RX5) (T := TX5) (N := 27) hx hb hts inX5_hasBlock_X5 hown hK hP 0 rfl rfl 16 (by decide) (hts (.fieldLink RX5 117 "BlockCacheModel" "translated" "I") (by decide +kernel)) (fun _ h9 => h9) rfl dX5_hasBlock_114 ?_
  obtain ⟨h_8, hf⟩ := pIn_out hf
  refine va_iast hx hb hK hP hD hS 9 0 rfl rfl h_8 dX5_hasBlock_117 (fun H locs hP hD hS => ?_)
  obtain ⟨u_9, eu_9, hf⟩ := pLet_out hf
  replace hP : va_P D vwCl (wM a0 a1 a2 a3 a4 a5 a6 a7 a8 a9 a10 a11 a12 a13 cI u_9) H := by rw [eu_9]; exact hP
  replace hD : va_D A (wM a0 a1 a2 a3 a4 a5 a6 a7 a8 a9 a10 a11 a12 a13 cI u_9) := by rw [eu_9]; exact hD
  refine lv_aload_n hx hb dX5_hasBlock_118 rfl (lv_at hl 0 rfl) ?_
  refine va_get (D := D) (ci := 4) (v := .ref a10) (C := RX5) (T := TX5) (N := 27) hx hb hts inX5_hasBlock_X5 hown hK hP 0 rfl rfl 13 (by decide) (hts (.fieldLink RX5 41 "BlockCacheModel" "exitAt" "[I") (by decide +kernel)) (fun _ h9 => h9) rfl dX5_hasBlock_119 ?_
  refine lv_iconst (v := 2) hx hb dX5_hasBlock_122 (by decide) ?_
  refine lv_iload_n hx hb dX5_hasBlock_123 rfl (lv_at hl 1 rfl) ?_
  refine lv_imul hx hb dX5_hasBlock_124 ?_
  refine lv_iconst (v := (-1)) hx hb dX5_hasBlock_125 (by decide) ?_
  obtain ⟨h_10, hf⟩ := pIn_out hf
  refine va_iast hx hb hK hP hD hS 10 0 rfl rfl h_10 dX5_hasBlock_126 (fun H locs hP hD hS => ?_)
  obtain ⟨u_11, eu_11, hf⟩ := pLet_out hf
  replace hP : va_P D vwCl (wM a0 a1 a2 a3 a4 a5 a6 a7 a8 a9 a10 a11 a12 a13 cI u_11) H := by rw [eu_11]; exact hP
  replace hD : va_D A (wM a0 a1 a2 a3 a4 a5 a6 a7 a8 a9 a10 a11 a12 a13 cI u_11) := by rw [eu_11]; exact hD
  refine lv_aload_n hx hb dX5_hasBlock_127 rfl (lv_at hl 0 rfl) ?_
  refine va_get (D := D) (ci := 4) (v := .ref a10) (C := RX5) (T := TX5) (N := 27) hx hb hts inX5_hasBlock_X5 hown hK hP 0 rfl rfl 13 (by decide) (hts (.fieldLink RX5 41 "BlockCacheModel" "exitAt" "[I") (by decide +kernel)) (fun _ h9 => h9) rfl dX5_hasBlock_128 ?_
  refine lv_iconst (v := 2) hx hb dX5_hasBlock_131 (by decide) ?_
  refine lv_iload_n hx hb dX5_hasBlock_132 rfl (lv_at hl 1 rfl) ?_
  refine lv_imul hx hb dX5_hasBlock_133 ?_
  refine lv_iconst (v := 1) hx hb dX5_hasBlock_134 (by decide) ?_
  refine lv_iadd hx hb dX5_hasBlock_135 ?_
  refine lv_iconst (v := (-1)) hx hb dX5_hasBlock_136 (by decide) ?_
  obtain ⟨h_12, hf⟩ := pIn_out hf
  refine va_iast hx hb hK hP hD hS 10 0 rfl rfl h_12 dX5_hasBlock_137 (fun H locs hP hD hS => ?_)
  obtain ⟨u_13, eu_13, hf⟩ := pLet_out hf
  replace hP : va_P D vwCl (wM a0 a1 a2 a3 a4 a5 a6 a7 a8 a9 a10 a11 a12 a13 cI u_13) H := by rw [eu_13]; exact hP
  replace hD : va_D A (wM a0 a1 a2 a3 a4 a5 a6 a7 a8 a9 a10 a11 a12 a13 cI u_13) := by rw [eu_13]; exact hD
  refine lv_aload_n hx hb dX5_hasBlock_138 rfl (lv_at hl 0 rfl) ?_
  refine va_get (D := D) (ci := 4) (v := .ref a12) (C := RX5) (T := TX5) (N := 27) hx hb hts inX5_hasBlock_X5 hown hK hP 0 rfl rfl 17 (by decide) (hts (.fieldLink RX5 50 "BlockCacheModel" "counts" "[I") (by decide +kernel)) (fun _ h9 => h9) rfl dX5_hasBlock_139 ?_
  refine lv_iconst (v := 1) hx hb dX5_hasBlock_142 (by decide) ?_
  refine lv_dup2_11 hx hb dX5_hasBlock_143 rfl rfl ?_
  obtain ⟨h_14, hf⟩ := pIn_out hf
  refine va_iald hx hb hK hP 12 0 rfl rfl h_14 dX5_hasBlock_144 ?_
  refine lv_iconst (v := 1) hx hb dX5_hasBlock_145 (by decide) ?_
  refine lv_iadd hx hb dX5_hasBlock_146 ?_
  obtain ⟨h_15, hf⟩ := pIn_out hf
  refine va_iast hx hb hK hP hD hS 12 0 rfl rfl h_15 dX5_hasBlock_147 (fun H locs hP hD hS => ?_)
  obtain ⟨u_16, eu_16, hf⟩ := pLet_out hf
  replace hP : va_P D vwCl (wM a0 a1 a2 a3 a4 a5 a6 a7 a8 a9 a10 a11 a12 a13 cI u_16) H := by rw [eu_16]; exact hP
  replace hD : va_D A (wM a0 a1 a2 a3 a4 a5 a6 a7 a8 a9 a10 a11 a12 a13 cI u_16) := by rw [eu_16]; exact hD
  refine lv_aload_n hx hb dX5_hasBlock_148 rfl (lv_at hl 0 rfl) ?_
  refine va_get (D := D) (ci := 4) (v := .ref a12) (C := RX5) (T := TX5) (N := 27) hx hb hts inX5_hasBlock_X5 hown hK hP 0 rfl rfl 17 (by decide) (hts (.fieldLink RX5 50 "BlockCacheModel" "counts" "[I") (by decide +kernel)) (fun _ h9 => h9) rfl dX5_hasBlock_149 ?_
  refine lv_iconst (v := 2) hx hb dX5_hasBlock_152 (by decide) ?_
  refine lv_aload_n hx hb dX5_hasBlock_153 rfl (lv_at hl 0 rfl) ?_
  refine va_get (D := D) (ci := 4) (v := .ref a12) (C := RX5) (T := TX5) (N := 27) hx hb hts inX5_hasBlock_X5 hown hK hP 0 rfl rfl 17 (by decide) (hts (.fieldLink RX5 50 "BlockCacheModel" "counts" "[I") (by decide +kernel)) (fun _ h9 => h9) rfl dX5_hasBlock_154 ?_
  refine lv_iconst (v := 2) hx hb dX5_hasBlock_157 (by decide) ?_
  obtain ⟨h_17, hf⟩ := pIn_out hf
  refine va_iald hx hb hK hP 12 0 rfl rfl h_17 dX5_hasBlock_158 ?_
  refine lv_aload_n hx hb dX5_hasBlock_159 rfl (lv_at hl 0 rfl) ?_
  refine va_get (D := D) (ci := 4) (v := .int (gM_foundSize u_16)) (C := RX5) (T := TX5) (N := 27) hx hb hts inX5_hasBlock_X5 hown hK hP 0 rfl rfl 21 (by decide) (hts (.fieldLink RX5 79 "BlockCacheModel" "foundSize" "I") (by decide +kernel)) (fun _ h9 => h9) rfl dX5_hasBlock_160 ?_
  refine lv_iadd hx hb dX5_hasBlock_163 ?_
  obtain ⟨h_18, hf⟩ := pIn_out hf
  refine va_iast hx hb hK hP hD hS 12 0 rfl rfl h_18 dX5_hasBlock_164 (fun H locs hP hD hS => ?_)
  obtain ⟨u_19, eu_19, hf⟩ := pLet_out hf
  replace hP : va_P D vwCl (wM a0 a1 a2 a3 a4 a5 a6 a7 a8 a9 a10 a11 a12 a13 cI u_19) H := by rw [eu_19]; exact hP
  replace hD : va_D A (wM a0 a1 a2 a3 a4 a5 a6 a7 a8 a9 a10 a11 a12 a13 cI u_19) := by rw [eu_19]; exact hD
  refine lv_aload_n hx hb dX5_hasBlock_165 rfl (lv_at hl 0 rfl) ?_
  refine va_get (D := D) (ci := 4) (v := .ref a12) (C := RX5) (T := TX5) (N := 27) hx hb hts inX5_hasBlock_X5 hown hK hP 0 rfl rfl 17 (by decide) (hts (.fieldLink RX5 50 "BlockCacheModel" "counts" "[I") (by decide +kernel)) (fun _ h9 => h9) rfl dX5_hasBlock_166 ?_
  refine lv_iconst (v := 3) hx hb dX5_hasBlock_169 (by decide) ?_
  refine lv_dup2_11 hx hb dX5_hasBlock_170 rfl rfl ?_
  obtain ⟨h_20, hf⟩ := pIn_out hf
  refine va_iald hx hb hK hP 12 0 rfl rfl h_20 dX5_hasBlock_171 ?_
  refine lv_iconst (v := 1) hx hb dX5_hasBlock_172 (by decide) ?_
  refine lv_iadd hx hb dX5_hasBlock_173 ?_
  obtain ⟨h_21, hf⟩ := pIn_out hf
  refine va_iast hx hb hK hP hD hS 12 0 rfl rfl h_21 dX5_hasBlock_174 (fun H locs hP hD hS => ?_)
  obtain ⟨u_22, eu_22, hf⟩ := pLet_out hf
  replace hP : va_P D vwCl (wM a0 a1 a2 a3 a4 a5 a6 a7 a8 a9 a10 a11 a12 a13 cI u_22) H := by rw [eu_22]; exact hP
  replace hD : va_D A (wM a0 a1 a2 a3 a4 a5 a6 a7 a8 a9 a10 a11 a12 a13 cI u_22) := by rw [eu_22]; exact hD
  refine lv_aload_n hx hb dX5_hasBlock_175 rfl (lv_at hl 0 rfl) ?_
  refine va_get (D := D) (ci := 4) (v := .ref a12) (C := RX5) (T := TX5) (N := 27) hx hb hts inX5_hasBlock_X5 hown hK hP 0 rfl rfl 17 (by decide) (hts (.fieldLink RX5 50 "BlockCacheModel" "counts" "[I") (by decide +kernel)) (fun _ h9 => h9) rfl dX5_hasBlock_176 ?_
  refine lv_bipush (v := 9) hx hb dX5_hasBlock_179 (by decide) ?_
  refine lv_aload_n hx hb dX5_hasBlock_181 rfl (lv_at hl 0 rfl) ?_
  refine va_get (D := D) (ci := 4) (v := .ref a12) (C := RX5) (T := TX5) (N := 27) hx hb hts inX5_hasBlock_X5 hown hK hP 0 rfl rfl 17 (by decide) (hts (.fieldLink RX5 50 "BlockCacheModel" "counts" "[I") (by decide +kernel)) (fun _ h9 => h9) rfl dX5_hasBlock_182 ?_
  refine lv_bipush (v := 9) hx hb dX5_hasBlock_185 (by decide) ?_
  obtain ⟨h_23, hf⟩ := pIn_out hf
  refine va_iald hx hb hK hP 12 0 rfl rfl h_23 dX5_hasBlock_187 ?_
  refine lv_aload_n hx hb dX5_hasBlock_188 rfl (lv_at hl 0 rfl) ?_
  refine va_get (D := D) (ci := 4) (v := .int (gM_foundDead u_22)) (C := RX5) (T := TX5) (N := 27) hx hb hts inX5_hasBlock_X5 hown hK hP 0 rfl rfl 23 (by decide) (hts (.fieldLink RX5 85 "BlockCacheModel" "foundDead" "I") (by decide +kernel)) (fun _ h9 => h9) rfl dX5_hasBlock_189 ?_
  refine lv_iadd hx hb dX5_hasBlock_192 ?_
  obtain ⟨h_24, hf⟩ := pIn_out hf
  refine va_iast hx hb hK hP hD hS 12 0 rfl rfl h_24 dX5_hasBlock_193 (fun H locs hP hD hS => ?_)
  obtain ⟨u_25, eu_25, hf⟩ := pLet_out hf
  replace hP : va_P D vwCl (wM a0 a1 a2 a3 a4 a5 a6 a7 a8 a9 a10 a11 a12 a13 cI u_25) H := by rw [eu_25]; exact hP
  replace hD : va_D A (wM a0 a1 a2 a3 a4 a5 a6 a7 a8 a9 a10 a11 a12 a13 cI u_25) := by rw [eu_25]; exact hD
  refine lv_iconst (v := 1) hx hb dX5_hasBlock_194 (by decide) ?_
  have hz := Option.some.inj hf
  subst hz
  exact gRetZ hx hb hr hlocks hK hP hD hS (by decide) rfl rfl dX5_hasBlock_195
set_option maxRecDepth 100000 in
set_option maxHeartbeats 4000000 in
theorem wkX5_hasBlock {p : Program} {l : Launch} {e : Env} {s : State} {m : MethodId} {args : Array Value} {below : List Frame} {meth : Method} {c : Code} {D : va_G} {cI : ClassId} {A : Nat → Prop} {a0 a1 a2 a3 a4 a5 a6 a7 a8 a9 a10 a11 a12 a13 : Nat} (C : cxt p s m args meth c cX5_hasBlock (some .boolean) 2 RX5 wsX5_hasBlock D vwCl [(cI, .int)] A) : ∀ (z : Int32 × TM) (u : TM) (x1 : Int32) (H : Heap) (locs : List Loc) (ls : Array Slot), fX5_hasBlock u x1 = some z → va_P D vwCl (wM a0 a1 a2 a3 a4 a5 a6 a7 a8 a9 a10 a11 a12 a13 cI u) H → va_D A (wM a0 a1 a2 a3 a4 a5 a6 a7 a8 a9 a10 a11 a12 a13 cI u) → va_S A s.heap H locs → lv_has ls 2 [(0, .ref a0), (1, .int x1)] → W p l e rmX5_hasBlock s m args below meth c H locs 0 0 (MQ below (oI D vwCl [(cI, .int)] A z.1 (wM a0 a1 a2 a3 a4 a5 a6 a7 a8 a9 a10 a11 a12 a13 cI z.2)) args s 0 0 A) (F0 m 0 ls []) := by
  have C0 := C
  obtain ⟨hx, hb, hr, hml, hown, hts, hlocks, hK, hA⟩ := C
  intro z u x1 H locs ls hf hP hD hS hl
  unfold fX5_hasBlock at hf
  refine lv_aload_n hx hb dX5_hasBlock_0 rfl (lv_at hl 0 rfl) ?_
  refine va_get (D := D) (ci := 4) (v := .ref a6) (C := RX5) (T := TX5) (N := 27) hx hb hts inX5_hasBlock_X5 hown hK hP 0 rfl rfl 9 (by decide) (hts (.fieldLink RX5 29 "BlockCacheModel" "size" "[I") (by decide +kernel)) (fun _ h9 => h9) rfl dX5_hasBlock_1 ?_
  refine lv_iload_n hx hb dX5_hasBlock_4 rfl (lv_at hl 1 rfl) ?_
  obtain ⟨h_1, hf⟩ := pIn_out hf
  refine va_iald hx hb hK hP 6 0 rfl rfl h_1 dX5_hasBlock_5 ?_
  refine lv_if_le (tgt := 11) hx hb dX5_hasBlock_6 (by decide) (fun c_2 => ?_) (fun c_2 => ?_)
  · replace hf := pI_t c_2 hf
    refine lv_aload_n hx hb dX5_hasBlock_11 rfl (lv_at hl 0 rfl) ?_
    refine lv_iload_n hx hb dX5_hasBlock_12 rfl (lv_at hl 1 rfl) ?_
    obtain ⟨z_3, hz_3, hf⟩ := pB_out hf
    refine gV (w' := (wM a0 a1 a2 a3 a4 a5 a6 a7 a8 a9 a10 a11 a12 a13 cI z_3)) (va_runV (As := [.int x1]) (rest := []) ⟨hx, hb, hml, hown, hts⟩ (ctX5_find l D cI a0 a1 a2 a3 a4 a5 a6 a7 a8 a9 a10 a11 a12 a13 u x1 z_3 hz_3 H.size) (cwV 1 hts gX5_hasBlock_X5_find rfl rfl rfl (by decide +kernel) ⟨Nat.le_of_ble_eq_true rfl, Nat.le_of_ble_eq_true rfl⟩) (gPreV (ci := 4) (C := RX5) (T := TX5) (N := 27) hP hK hD [0, 1, 2, 3, 4, 5, 6, 7, 8, 9, 10, 11, 12, 13] (by decide) rfl 0 rfl rfl) rfl rfl hl.1 rfl (lv_room (Nat.le_of_ble_eq_true rfl)) dX5_hasBlock_13 ⟨Nat.le_of_ble_eq_true rfl, Nat.le_of_ble_eq_true rfl⟩) hP hD hS hA [0, 1, 2, 3, 4, 5, 6, 7, 8, 9, 10, 11, 12, 13] [] [0, 1, 2, 3, 4, 5, 6, 7, 8, 9, 10, 11, 12, 13] rfl rfl (by decide) (by decide) rfl (by decide) (fun H locs hP hD hS => ?_)
    refine lv_aload_n hx hb dX5_hasBlock_16 rfl (lv_at hl 0 rfl) ?_
    refine va_get (D := D) (ci := 4) (v := .int (gM_foundMany z_3)) (C := RX5) (T := TX5) (N := 27) hx hb hts inX5_hasBlock_X5 hown hK hP 0 rfl rfl 20 (by decide) (hts (.fieldLink RX5 76 "BlockCacheModel" "foundMany" "I") (by decide +kernel)) (fun _ h9 => h9) rfl dX5_hasBlock_17 ?_
    refine lv_if_eq (tgt := 34) hx hb dX5_hasBlock_20 (by decide) (fun c_4 => ?_) (fun c_4 => ?_)
    · replace hf := pI_t c_4 hf
      refine lv_iconst (v := 0) hx hb dX5_hasBlock_34 (by decide) ?_
      have hz := Option.some.inj hf
      subst hz
      exact gRetZ hx hb hr hlocks hK hP hD hS (by decide) rfl rfl dX5_hasBlock_35
    · replace hf := pI_f c_4 hf
      refine lv_aload_n hx hb dX5_hasBlock_23 rfl (lv_at hl 0 rfl) ?_
      refine va_get (D := D) (ci := 4) (v := .int (gM_foundSize z_3)) (C := RX5) (T := TX5) (N := 27) hx hb hts inX5_hasBlock_X5 hown hK hP 0 rfl rfl 21 (by decide) (hts (.fieldLink RX5 79 "BlockCacheModel" "foundSize" "I") (by decide +kernel)) (fun _ h9 => h9) rfl dX5_hasBlock_24 ?_
      refine lv_aload_n hx hb dX5_hasBlock_27 rfl (lv_at hl 0 rfl) ?_
      refine va_get (D := D) (ci := 4) (v := .int (gM_room z_3)) (C := RX5) (T := TX5) (N := 27) hx hb hts inX5_hasBlock_X5 hown hK hP 0 rfl rfl 15 (by decide) (hts (.fieldLink RX5 47 "BlockCacheModel" "room" "I") (by decide +kernel)) (fun _ h9 => h9) rfl dX5_hasBlock_28 ?_
      refine lv_icmp_le (tgt := 36) hx hb dX5_hasBlock_31 (by decide) (fun c_5 => ?_) (fun c_5 => ?_)
      · replace hf := pI_t c_5 hf
        refine lv_aload_n hx hb dX5_hasBlock_36 rfl (lv_at hl 0 rfl) ?_
        refine va_get (D := D) (ci := 4) (v := .ref a12) (C := RX5) (T := TX5) (N := 27) hx hb hts inX5_hasBlock_X5 hown hK hP 0 rfl rfl 17 (by decide) (hts (.fieldLink RX5 50 "BlockCacheModel" "counts" "[I") (by decide +kernel)) (fun _ h9 => h9) rfl dX5_hasBlock_37 ?_
        refine lv_iconst (v := 2) hx hb dX5_hasBlock_40 (by decide) ?_
        obtain ⟨h_6, hf⟩ := pIn_out hf
        refine va_iald hx hb hK hP 12 0 rfl rfl h_6 dX5_hasBlock_41 ?_
        refine lv_aload_n hx hb dX5_hasBlock_42 rfl (lv_at hl 0 rfl) ?_
        refine va_get (D := D) (ci := 4) (v := .int (gM_foundSize z_3)) (C := RX5) (T := TX5) (N := 27) hx hb hts inX5_hasBlock_X5 hown hK hP 0 rfl rfl 21 (by decide) (hts (.fieldLink RX5 79 "BlockCacheModel" "foundSize" "I") (by decide +kernel)) (fun _ h9 => h9) rfl dX5_hasBlock_43 ?_
        refine lv_iadd hx hb dX5_hasBlock_46 ?_
        refine lv_aload_n hx hb dX5_hasBlock_47 rfl (lv_at hl 0 rfl) ?_
        refine va_get (D := D) (ci := 4) (v := .int (gM_room z_3)) (C := RX5) (T := TX5) (N := 27) hx hb hts inX5_hasBlock_X5 hown hK hP 0 rfl rfl 15 (by decide) (hts (.fieldLink RX5 47 "BlockCacheModel" "room" "I") (by decide +kernel)) (fun _ h9 => h9) rfl dX5_hasBlock_48 ?_
        refine lv_icmp_le (tgt := 68) hx hb dX5_hasBlock_51 (by decide) (fun c_7 => ?_) (fun c_7 => ?_)
        · replace hf := pI_t c_7 hf
          exact wkX5_hasBlock_b68 C0 _ _ _ H locs ls hf hP hD hS (lv_sub hl [0, 1] rfl)
        · replace hf := pI_f c_7 hf
          refine lv_aload_n hx hb dX5_hasBlock_54 rfl (lv_at hl 0 rfl) ?_
          obtain ⟨z_8, hz_8, hf⟩ := pB_out hf
          refine gV (w' := (wM a0 a1 a2 a3 a4 a5 a6 a7 a8 a9 a10 a11 a12 a13 cI z_8)) (va_runV (As := []) (rest := []) ⟨hx, hb, hml, hown, hts⟩ (ctX5_empty l D cI a0 a1 a2 a3 a4 a5 a6 a7 a8 a9 a10 a11 a12 a13 z_3 z_8 hz_8 H.size) (cwV 0 hts gX5_hasBlock_X5_empty rfl rfl rfl (by decide +kernel) ⟨Nat.le_of_ble_eq_true rfl, Nat.le_of_ble_eq_true rfl⟩) (gPreV (ci := 4) (C := RX5) (T := TX5) (N := 27) hP hK hD [0, 1, 2, 3, 4, 5, 6, 7, 8, 9, 10, 11, 12, 13] (by decide) rfl 0 rfl rfl) rfl rfl hl.1 rfl (lv_room (Nat.le_of_ble_eq_true rfl)) dX5_hasBlock_55 ⟨Nat.le_of_ble_eq_true rfl, Nat.le_of_ble_eq_true rfl⟩) hP hD hS hA [0, 1, 2, 3, 4, 5, 6, 7, 8, 9, 10, 11, 12, 13] [] [0, 1, 2, 3, 4, 5, 6, 7, 8, 9, 10, 11, 12, 13] rfl rfl (by decide) (by decide) rfl (by decide) (fun H locs hP hD hS => ?_)
          refine lv_aload_n hx hb dX5_hasBlock_58 rfl (lv_at hl 0 rfl) ?_
          refine va_get (D := D) (ci := 4) (v := .ref a12) (C := RX5) (T := TX5) (N := 27) hx hb hts inX5_hasBlock_X5 hown hK hP 0 rfl rfl 17 (by decide) (hts (.fieldLink RX5 50 "BlockCacheModel" "counts" "[I") (by decide +kernel)) (fun _ h9 => h9) rfl dX5_hasBlock_59 ?_
          refine lv_iconst (v := 5) hx hb dX5_hasBlock_62 (by decide) ?_
          refine lv_dup2_11 hx hb dX5_hasBlock_63 rfl rfl ?_
          obtain ⟨h_9, hf⟩ := pIn_out hf
          refine va_iald hx hb hK hP 12 0 rfl rfl h_9 dX5_hasBlock_64 ?_
          refine lv_iconst (v := 1) hx hb dX5_hasBlock_65 (by decide) ?_
          refine lv_iadd hx hb dX5_hasBlock_66 ?_
          obtain ⟨h_10, hf⟩ := pIn_out hf
          refine va_iast hx hb hK hP hD hS 12 0 rfl rfl h_10 dX5_hasBlock_67 (fun H locs hP hD hS => ?_)
          obtain ⟨u_11, eu_11, hf⟩ := pLet_out hf
          replace hP : va_P D vwCl (wM a0 a1 a2 a3 a4 a5 a6 a7 a8 a9 a10 a11 a12 a13 cI u_11) H := by rw [eu_11]; exact hP
          replace hD : va_D A (wM a0 a1 a2 a3 a4 a5 a6 a7 a8 a9 a10 a11 a12 a13 cI u_11) := by rw [eu_11]; exact hD
          exact wkX5_hasBlock_b68 C0 _ _ _ H locs ls hf hP hD hS (lv_sub hl [0, 1] rfl)
      · replace hf := pI_f c_5 hf
        refine lv_iconst (v := 0) hx hb dX5_hasBlock_34 (by decide) ?_
        have hz := Option.some.inj hf
        subst hz
        exact gRetZ hx hb hr hlocks hK hP hD hS (by decide) rfl rfl dX5_hasBlock_35
  · replace hf := pI_f c_2 hf
    refine lv_iconst (v := 1) hx hb dX5_hasBlock_9 (by decide) ?_
    have hz := Option.some.inj hf
    subst hz
    exact gRetZ hx hb hr hlocks hK hP hD hS (by decide) rfl rfl dX5_hasBlock_10
theorem ctX5_hasBlock (l : Launch) (D : va_G) (cI : ClassId) (a0 a1 a2 a3 a4 a5 a6 a7 a8 a9 a10 a11 a12 a13 : Nat) (u : TM) (x1 : Int32) (z : Int32 × TM) (hz : fX5_hasBlock u x1 = some z) : CtI l yX5_hasBlock wsX5_hasBlock rmX5_hasBlock D vwCl [(cI, .int)] [.ref a0, .int x1] (wM a0 a1 a2 a3 a4 a5 a6 a7 a8 a9 a10 a11 a12 a13 cI u) z.1 (wM a0 a1 a2 a3 a4 a5 a6 a7 a8 a9 a10 a11 a12 a13 cI z.2) :=
  ctI_of (cc := cX5_hasBlock) (maxL := 2) (ret := (some .boolean)) (by decide) rfl (Nat.le_of_ble_eq_true rfl) (fun p e s m below meth c A ls C hl hP hD hS => wkX5_hasBlock C z _ _ s.heap [] ls hz hP hD hS hl)
abbrev rmX5_setFlags : Room := { frames := 0, cells := 0, slots := 0, locals := 0 }
theorem inX5_setFlags_X5 : ∀ w ∈ wsX50, w ∈ wsX5_setFlags := by decide +kernel
set_option maxRecDepth 100000 in
set_option maxHeartbeats 4000000 in
theorem wkX5_setFlags_b18 {p : Program} {l : Launch} {e : Env} {s : State} {m : MethodId} {args : Array Value} {below : List Frame} {meth : Method} {c : Code} {D : va_G} {cI : ClassId} {A : Nat → Prop} {a0 a1 a2 a3 a4 a5 a6 a7 a8 a9 a10 a11 a12 a13 : Nat} (C : cxt p s m args meth c cX5_setFlags none 3 RX5 wsX5_setFlags D vwCl [(cI, .int)] A) : ∀ (z : TM) (u : TM) (x1 : Int32) (x2 : Int32) (y0 : Int32) (y1 : Int32) (H : Heap) (locs : List Loc) (ls : Array Slot), fX5_setFlags_b18 u x1 x2 y0 y1 = some z → va_P D vwCl (wM a0 a1 a2 a3 a4 a5 a6 a7 a8 a9 a10 a11 a12 a13 cI u) H → va_D A (wM a0 a1 a2 a3 a4 a5 a6 a7 a8 a9 a10 a11 a12 a13 cI u) → va_S A s.heap H locs → lv_has ls 3 [(0, .ref a0), (1, .int x1), (2, .int x2)] → W p l e rmX5_setFlags s m args below meth c H locs 0 0 (MQ below (oV D vwCl [(cI, .int)] A (wM a0 a1 a2 a3 a4 a5 a6 a7 a8 a9 a10 a11 a12 a13 cI z)) args s 0 0 A) (F0 m 18 ls [.int y0, .int y1, .ref a2]) := by
  have C0 := C
  obtain ⟨hx, hb, hr, hml, hown, hts, hlocks, hK, hA⟩ := C
  intro z u x1 x2 y0 y1 H locs ls hf hP hD hS hl
  unfold fX5_setFlags_b18 at hf
  obtain ⟨h_1, hf⟩ := pIn_out hf
  refine va_iast hx hb hK hP hD hS 2 0 rfl rfl h_1 dX5_setFlags_18 (fun H locs hP hD hS => ?_)
  obtain ⟨u_2, eu_2, hf⟩ := pLet_out hf
  replace hP : va_P D vwCl (wM a0 a1 a2 a3 a4 a5 a6 a7 a8 a9 a10 a11 a12 a13 cI u_2) H := by rw [eu_2]; exact hP
  replace hD : va_D A (wM a0 a1 a2 a3 a4 a5 a6 a7 a8 a9 a10 a11 a12 a13 cI u_2) := by rw [eu_2]; exact hD
  refine lv_aload_n hx hb dX5_setFlags_19 rfl (lv_at hl 0 rfl) ?_
  refine va_get (D := D) (ci := 4) (v := .ref a2) (C := RX5) (T := TX5) (N := 27) hx hb hts inX5_setFlags_X5 hown hK hP 0 rfl rfl 2 (by decide) (hts (.fieldLink RX5 13 "BlockCacheModel" "reg" "[I") (by decide +kernel)) (fun _ h9 => h9) rfl dX5_setFlags_20 ?_
  refine lv_bipush (v := 6) hx hb dX5_setFlags_23 (by decide) ?_
  refine lv_iload_n hx hb dX5_setFlags_25 rfl (lv_at hl 2 rfl) ?_
  obtain ⟨h_3, hf⟩ := pIn_out hf
  refine va_iast hx hb hK hP hD hS 2 0 rfl rfl h_3 dX5_setFlags_26 (fun H locs hP hD hS => ?_)
  obtain ⟨u_4, eu_4, hf⟩ := pLet_out hf
  replace hP : va_P D vwCl (wM a0 a1 a2 a3 a4 a5 a6 a7 a8 a9 a10 a11 a12 a13 cI u_4) H := by rw [eu_4]; exact hP
  replace hD : va_D A (wM a0 a1 a2 a3 a4 a5 a6 a7 a8 a9 a10 a11 a12 a13 cI u_4) := by rw [eu_4]; exact hD
  refine lv_aload_n hx hb dX5_setFlags_27 rfl (lv_at hl 0 rfl) ?_
  refine va_get (D := D) (ci := 4) (v := .ref a2) (C := RX5) (T := TX5) (N := 27) hx hb hts inX5_setFlags_X5 hown hK hP 0 rfl rfl 2 (by decide) (hts (.fieldLink RX5 13 "BlockCacheModel" "reg" "[I") (by decide +kernel)) (fun _ h9 => h9) rfl dX5_setFlags_28 ?_
  refine lv_bipush (v := 7) hx hb dX5_setFlags_31 (by decide) ?_
  refine lv_iload_n hx hb dX5_setFlags_33 rfl (lv_at hl 1 rfl) ?_
  refine lv_bipush (v := 7) hx hb dX5_setFlags_34 (by decide) ?_
  refine lv_ishr hx hb dX5_setFlags_36 ?_
  refine lv_iconst (v := 1) hx hb dX5_setFlags_37 (by decide) ?_
  refine lv_iand hx hb dX5_setFlags_38 ?_
  obtain ⟨h_5, hf⟩ := pIn_out hf
  refine va_iast hx hb hK hP hD hS 2 0 rfl rfl h_5 dX5_setFlags_39 (fun H locs hP hD hS => ?_)
  obtain ⟨u_6, eu_6, hf⟩ := pLet_out hf
  replace hP : va_P D vwCl (wM a0 a1 a2 a3 a4 a5 a6 a7 a8 a9 a10 a11 a12 a13 cI u_6) H := by rw [eu_6]; exact hP
  replace hD : va_D A (wM a0 a1 a2 a3 a4 a5 a6 a7 a8 a9 a10 a11 a12 a13 cI u_6) := by rw [eu_6]; exact hD
  have hz := Option.some.inj hf
  subst hz
  exact gRetV hx hb hr hlocks hK hP hD hS rfl dX5_setFlags_40
set_option maxRecDepth 100000 in
set_option maxHeartbeats 4000000 in
theorem wkX5_setFlags {p : Program} {l : Launch} {e : Env} {s : State} {m : MethodId} {args : Array Value} {below : List Frame} {meth : Method} {c : Code} {D : va_G} {cI : ClassId} {A : Nat → Prop} {a0 a1 a2 a3 a4 a5 a6 a7 a8 a9 a10 a11 a12 a13 : Nat} (C : cxt p s m args meth c cX5_setFlags none 3 RX5 wsX5_setFlags D vwCl [(cI, .int)] A) : ∀ (z : TM) (u : TM) (x1 : Int32) (x2 : Int32) (H : Heap) (locs : List Loc) (ls : Array Slot), fX5_setFlags u x1 x2 = some z → va_P D vwCl (wM a0 a1 a2 a3 a4 a5 a6 a7 a8 a9 a10 a11 a12 a13 cI u) H → va_D A (wM a0 a1 a2 a3 a4 a5 a6 a7 a8 a9 a10 a11 a12 a13 cI u) → va_S A s.heap H locs → lv_has ls 3 [(0, .ref a0), (1, .int x1), (2, .int x2)] → W p l e rmX5_setFlags s m args below meth c H locs 0 0 (MQ below (oV D vwCl [(cI, .int)] A (wM a0 a1 a2 a3 a4 a5 a6 a7 a8 a9 a10 a11 a12 a13 cI z)) args s 0 0 A) (F0 m 0 ls []) := by
  have C0 := C
  obtain ⟨hx, hb, hr, hml, hown, hts, hlocks, hK, hA⟩ := C
  intro z u x1 x2 H locs ls hf hP hD hS hl
  unfold fX5_setFlags at hf
  refine lv_aload_n hx hb dX5_setFlags_0 rfl (lv_at hl 0 rfl) ?_
  refine va_get (D := D) (ci := 4) (v := .ref a2) (C := RX5) (T := TX5) (N := 27) hx hb hts inX5_setFlags_X5 hown hK hP 0 rfl rfl 2 (by decide) (hts (.fieldLink RX5 13 "BlockCacheModel" "reg" "[I") (by decide +kernel)) (fun _ h9 => h9) rfl dX5_setFlags_1 ?_
  refine lv_iconst (v := 5) hx hb dX5_setFlags_4 (by decide) ?_
  refine lv_iload_n hx hb dX5_setFlags_5 rfl (lv_at hl 1 rfl) ?_
  refine lv_sipush (v := 255) hx hb dX5_setFlags_6 (by decide) ?_
  refine lv_iand hx hb dX5_setFlags_9 ?_
  refine lv_if_ne (tgt := 17) hx hb dX5_setFlags_10 (by decide) (fun c_1 => ?_) (fun c_1 => ?_)
  · replace hf := pI_f c_1 hf
    refine lv_iconst (v := 0) hx hb dX5_setFlags_17 (by decide) ?_
    exact wkX5_setFlags_b18 C0 _ _ _ _ _ _ H locs ls hf hP hD hS (lv_sub hl [0, 1, 2] rfl)
  · replace hf := pI_t c_1 hf
    refine lv_iconst (v := 1) hx hb dX5_setFlags_13 (by decide) ?_
    refine lv_goto (tgt := 18) hx hb dX5_setFlags_14 (by decide) ?_
    exact wkX5_setFlags_b18 C0 _ _ _ _ _ _ H locs ls hf hP hD hS (lv_sub hl [0, 1, 2] rfl)
theorem ctX5_setFlags (l : Launch) (D : va_G) (cI : ClassId) (a0 a1 a2 a3 a4 a5 a6 a7 a8 a9 a10 a11 a12 a13 : Nat) (u : TM) (x1 : Int32) (x2 : Int32) (z : TM) (hz : fX5_setFlags u x1 x2 = some z) : CtV l yX5_setFlags wsX5_setFlags rmX5_setFlags D vwCl [(cI, .int)] [.ref a0, .int x1, .int x2] (wM a0 a1 a2 a3 a4 a5 a6 a7 a8 a9 a10 a11 a12 a13 cI u) (wM a0 a1 a2 a3 a4 a5 a6 a7 a8 a9 a10 a11 a12 a13 cI z) :=
  ctV_of (cc := cX5_setFlags) (maxL := 3) (ret := none) (by decide) rfl (Nat.le_of_ble_eq_true rfl) (fun p e s m below meth c A ls C hl hP hD hS => wkX5_setFlags C z _ _ _ s.heap [] ls hz hP hD hS hl)
abbrev rmX5_push : Room := { frames := 3, cells := 0, slots := 0, locals := 66 }
theorem inX5_push_X5 : ∀ w ∈ wsX50, w ∈ wsX5_push := by decide +kernel
set_option maxRecDepth 100000 in
set_option maxHeartbeats 4000000 in
theorem wkX5_push {p : Program} {l : Launch} {e : Env} {s : State} {m : MethodId} {args : Array Value} {below : List Frame} {meth : Method} {c : Code} {D : va_G} {cI : ClassId} {A : Nat → Prop} {a0 a1 a2 a3 a4 a5 a6 a7 a8 a9 a10 a11 a12 a13 : Nat} (C : cxt p s m args meth c cX5_push none 2 RX5 wsX5_push D vwCl [(cI, .int)] A) : ∀ (z : TM) (u : TM) (x1 : Int32) (H : Heap) (locs : List Loc) (ls : Array Slot), fX5_push u x1 = some z → va_P D vwCl (wM a0 a1 a2 a3 a4 a5 a6 a7 a8 a9 a10 a11 a12 a13 cI u) H → va_D A (wM a0 a1 a2 a3 a4 a5 a6 a7 a8 a9 a10 a11 a12 a13 cI u) → va_S A s.heap H locs → lv_has ls 2 [(0, .ref a0), (1, .int x1)] → W p l e rmX5_push s m args below meth c H locs 0 0 (MQ below (oV D vwCl [(cI, .int)] A (wM a0 a1 a2 a3 a4 a5 a6 a7 a8 a9 a10 a11 a12 a13 cI z)) args s 0 0 A) (F0 m 0 ls []) := by
  have C0 := C
  obtain ⟨hx, hb, hr, hml, hown, hts, hlocks, hK, hA⟩ := C
  intro z u x1 H locs ls hf hP hD hS hl
  unfold fX5_push at hf
  refine lv_aload_n hx hb dX5_push_0 rfl (lv_at hl 0 rfl) ?_
  refine va_get (D := D) (ci := 4) (v := .ref a2) (C := RX5) (T := TX5) (N := 27) hx hb hts inX5_push_X5 hown hK hP 0 rfl rfl 2 (by decide) (hts (.fieldLink RX5 13 "BlockCacheModel" "reg" "[I") (by decide +kernel)) (fun _ h9 => h9) rfl dX5_push_1 ?_
  refine lv_iconst (v := 4) hx hb dX5_push_4 (by decide) ?_
  refine lv_aload_n hx hb dX5_push_5 rfl (lv_at hl 0 rfl) ?_
  refine va_get (D := D) (ci := 4) (v := .ref a2) (C := RX5) (T := TX5) (N := 27) hx hb hts inX5_push_X5 hown hK hP 0 rfl rfl 2 (by decide) (hts (.fieldLink RX5 13 "BlockCacheModel" "reg" "[I") (by decide +kernel)) (fun _ h9 => h9) rfl dX5_push_6 ?_
  refine lv_iconst (v := 4) hx hb dX5_push_9 (by decide) ?_
  obtain ⟨h_1, hf⟩ := pIn_out hf
  refine va_iald hx hb hK hP 2 0 rfl rfl h_1 dX5_push_10 ?_
  refine lv_iconst (v := 1) hx hb dX5_push_11 (by decide) ?_
  refine lv_isub hx hb dX5_push_12 ?_
  refine lv_sipush (v := 255) hx hb dX5_push_13 (by decide) ?_
  refine lv_iand hx hb dX5_push_16 ?_
  obtain ⟨h_2, hf⟩ := pIn_out hf
  refine va_iast hx hb hK hP hD hS 2 0 rfl rfl h_2 dX5_push_17 (fun H locs hP hD hS => ?_)
  obtain ⟨u_3, eu_3, hf⟩ := pLet_out hf
  replace hP : va_P D vwCl (wM a0 a1 a2 a3 a4 a5 a6 a7 a8 a9 a10 a11 a12 a13 cI u_3) H := by rw [eu_3]; exact hP
  replace hD : va_D A (wM a0 a1 a2 a3 a4 a5 a6 a7 a8 a9 a10 a11 a12 a13 cI u_3) := by rw [eu_3]; exact hD
  refine lv_aload_n hx hb dX5_push_18 rfl (lv_at hl 0 rfl) ?_
  refine lv_aload_n hx hb dX5_push_19 rfl (lv_at hl 0 rfl) ?_
  refine va_get (D := D) (ci := 4) (v := .ref a2) (C := RX5) (T := TX5) (N := 27) hx hb hts inX5_push_X5 hown hK hP 0 rfl rfl 2 (by decide) (hts (.fieldLink RX5 13 "BlockCacheModel" "reg" "[I") (by decide +kernel)) (fun _ h9 => h9) rfl dX5_push_20 ?_
  refine lv_iconst (v := 4) hx hb dX5_push_23 (by decide) ?_
  obtain ⟨h_4, hf⟩ := pIn_out hf
  refine va_iald hx hb hK hP 2 0 rfl rfl h_4 dX5_push_24 ?_
  refine lv_iload_n hx hb dX5_push_25 rfl (lv_at hl 1 rfl) ?_
  obtain ⟨z_5, hz_5, hf⟩ := pB_out hf
  refine gV (w' := (wM a0 a1 a2 a3 a4 a5 a6 a7 a8 a9 a10 a11 a12 a13 cI z_5)) (va_runV (As := [.int ((gM_reg u_3) ((4 : Int32)).toNatClampNeg), .int x1]) (rest := []) ⟨hx, hb, hml, hown, hts⟩ (ctX5_write l D cI a0 a1 a2 a3 a4 a5 a6 a7 a8 a9 a10 a11 a12 a13 u_3 ((gM_reg u_3) ((4 : Int32)).toNatClampNeg) x1 z_5 hz_5 H.size) (cwV 2 hts gX5_push_X5_write rfl rfl rfl (by decide +kernel) ⟨Nat.le_of_ble_eq_true rfl, Nat.le_of_ble_eq_true rfl⟩) (gPreV (ci := 4) (C := RX5) (T := TX5) (N := 27) hP hK hD [0, 1, 2, 3, 4, 5, 6, 7, 8, 9, 10, 11, 12, 13] (by decide) rfl 0 rfl rfl) rfl rfl hl.1 rfl (lv_room (Nat.le_of_ble_eq_true rfl)) dX5_push_26 ⟨Nat.le_of_ble_eq_true rfl, Nat.le_of_ble_eq_true rfl⟩) hP hD hS hA [0, 1, 2, 3, 4, 5, 6, 7, 8, 9, 10, 11, 12, 13] [] [0, 1, 2, 3, 4, 5, 6, 7, 8, 9, 10, 11, 12, 13] rfl rfl (by decide) (by decide) rfl (by decide) (fun H locs hP hD hS => ?_)
  have hz := Option.some.inj hf
  subst hz
  exact gRetV hx hb hr hlocks hK hP hD hS rfl dX5_push_29
theorem ctX5_push (l : Launch) (D : va_G) (cI : ClassId) (a0 a1 a2 a3 a4 a5 a6 a7 a8 a9 a10 a11 a12 a13 : Nat) (u : TM) (x1 : Int32) (z : TM) (hz : fX5_push u x1 = some z) : CtV l yX5_push wsX5_push rmX5_push D vwCl [(cI, .int)] [.ref a0, .int x1] (wM a0 a1 a2 a3 a4 a5 a6 a7 a8 a9 a10 a11 a12 a13 cI u) (wM a0 a1 a2 a3 a4 a5 a6 a7 a8 a9 a10 a11 a12 a13 cI z) :=
  ctV_of (cc := cX5_push) (maxL := 2) (ret := none) (by decide) rfl (Nat.le_of_ble_eq_true rfl) (fun p e s m below meth c A ls C hl hP hD hS => wkX5_push C z _ _ s.heap [] ls hz hP hD hS hl)
abbrev rmX5_pop : Room := { frames := 0, cells := 0, slots := 0, locals := 0 }
theorem inX5_pop_X5 : ∀ w ∈ wsX50, w ∈ wsX5_pop := by decide +kernel
set_option maxRecDepth 100000 in
set_option maxHeartbeats 4000000 in
theorem wkX5_pop {p : Program} {l : Launch} {e : Env} {s : State} {m : MethodId} {args : Array Value} {below : List Frame} {meth : Method} {c : Code} {D : va_G} {cI : ClassId} {A : Nat → Prop} {a0 a1 a2 a3 a4 a5 a6 a7 a8 a9 a10 a11 a12 a13 : Nat} (C : cxt p s m args meth c cX5_pop (some .int) 2 RX5 wsX5_pop D vwCl [(cI, .int)] A) : ∀ (z : Int32 × TM) (u : TM) (H : Heap) (locs : List Loc) (ls : Array Slot), fX5_pop u = some z → va_P D vwCl (wM a0 a1 a2 a3 a4 a5 a6 a7 a8 a9 a10 a11 a12 a13 cI u) H → va_D A (wM a0 a1 a2 a3 a4 a5 a6 a7 a8 a9 a10 a11 a12 a13 cI u) → va_S A s.heap H locs → lv_has ls 2 [(0, .ref a0)] → W p l e rmX5_pop s m args below meth c H locs 0 0 (MQ below (oI D vwCl [(cI, .int)] A z.1 (wM a0 a1 a2 a3 a4 a5 a6 a7 a8 a9 a10 a11 a12 a13 cI z.2)) args s 0 0 A) (F0 m 0 ls []) := by
  have C0 := C
  obtain ⟨hx, hb, hr, hml, hown, hts, hlocks, hK, hA⟩ := C
  intro z u H locs ls hf hP hD hS hl
  unfold fX5_pop at hf
  refine lv_aload_n hx hb dX5_pop_0 rfl (lv_at hl 0 rfl) ?_
  refine va_get (D := D) (ci := 4) (v := .ref a1) (C := RX5) (T := TX5) (N := 27) hx hb hts inX5_pop_X5 hown hK hP 0 rfl rfl 1 (by decide) (hts (.fieldLink RX5 7 "BlockCacheModel" "memory" "[I") (by decide +kernel)) (fun _ h9 => h9) rfl dX5_pop_1 ?_
  refine lv_aload_n hx hb dX5_pop_4 rfl (lv_at hl 0 rfl) ?_
  refine va_get (D := D) (ci := 4) (v := .ref a2) (C := RX5) (T := TX5) (N := 27) hx hb hts inX5_pop_X5 hown hK hP 0 rfl rfl 2 (by decide) (hts (.fieldLink RX5 13 "BlockCacheModel" "reg" "[I") (by decide +kernel)) (fun _ h9 => h9) rfl dX5_pop_5 ?_
  refine lv_iconst (v := 4) hx hb dX5_pop_8 (by decide) ?_
  obtain ⟨h_1, hf⟩ := pIn_out hf
  refine va_iald hx hb hK hP 2 0 rfl rfl h_1 dX5_pop_9 ?_
  obtain ⟨h_2, hf⟩ := pIn_out hf
  refine va_iald hx hb hK hP 1 0 rfl rfl h_2 dX5_pop_10 ?_
  obtain ⟨x_3, ex_3, hf⟩ := pLet_out hf
  refine gTop ex_3 ?_
  refine lv_istore_n (lv' := [(1, .int x_3), (0, .ref a0)]) hx hb dX5_pop_11 rfl hl (by decide) rfl (fun ls hl => ?_)
  refine lv_aload_n hx hb dX5_pop_12 rfl (lv_at hl 1 rfl) ?_
  refine va_get (D := D) (ci := 4) (v := .ref a2) (C := RX5) (T := TX5) (N := 27) hx hb hts inX5_pop_X5 hown hK hP 0 rfl rfl 2 (by decide) (hts (.fieldLink RX5 13 "BlockCacheModel" "reg" "[I") (by decide +kernel)) (fun _ h9 => h9) rfl dX5_pop_13 ?_
  refine lv_iconst (v := 4) hx hb dX5_pop_16 (by decide) ?_
  refine lv_aload_n hx hb dX5_pop_17 rfl (lv_at hl 1 rfl) ?_
  refine va_get (D := D) (ci := 4) (v := .ref a2) (C := RX5) (T := TX5) (N := 27) hx hb hts inX5_pop_X5 hown hK hP 0 rfl rfl 2 (by decide) (hts (.fieldLink RX5 13 "BlockCacheModel" "reg" "[I") (by decide +kernel)) (fun _ h9 => h9) rfl dX5_pop_18 ?_
  refine lv_iconst (v := 4) hx hb dX5_pop_21 (by decide) ?_
  obtain ⟨h_4, hf⟩ := pIn_out hf
  refine va_iald hx hb hK hP 2 0 rfl rfl h_4 dX5_pop_22 ?_
  refine lv_iconst (v := 1) hx hb dX5_pop_23 (by decide) ?_
  refine lv_iadd hx hb dX5_pop_24 ?_
  refine lv_sipush (v := 255) hx hb dX5_pop_25 (by decide) ?_
  refine lv_iand hx hb dX5_pop_28 ?_
  obtain ⟨h_5, hf⟩ := pIn_out hf
  refine va_iast hx hb hK hP hD hS 2 0 rfl rfl h_5 dX5_pop_29 (fun H locs hP hD hS => ?_)
  obtain ⟨u_6, eu_6, hf⟩ := pLet_out hf
  replace hP : va_P D vwCl (wM a0 a1 a2 a3 a4 a5 a6 a7 a8 a9 a10 a11 a12 a13 cI u_6) H := by rw [eu_6]; exact hP
  replace hD : va_D A (wM a0 a1 a2 a3 a4 a5 a6 a7 a8 a9 a10 a11 a12 a13 cI u_6) := by rw [eu_6]; exact hD
  refine lv_iload_n hx hb dX5_pop_30 rfl (lv_at hl 0 rfl) ?_
  have hz := Option.some.inj hf
  subst hz
  exact gRetI hx hb hr hlocks hK hP hD hS rfl rfl dX5_pop_31
theorem ctX5_pop (l : Launch) (D : va_G) (cI : ClassId) (a0 a1 a2 a3 a4 a5 a6 a7 a8 a9 a10 a11 a12 a13 : Nat) (u : TM) (z : Int32 × TM) (hz : fX5_pop u = some z) : CtI l yX5_pop wsX5_pop rmX5_pop D vwCl [(cI, .int)] [.ref a0] (wM a0 a1 a2 a3 a4 a5 a6 a7 a8 a9 a10 a11 a12 a13 cI u) z.1 (wM a0 a1 a2 a3 a4 a5 a6 a7 a8 a9 a10 a11 a12 a13 cI z.2) :=
  ctI_of (cc := cX5_pop) (maxL := 2) (ret := (some .int)) (by decide) rfl (Nat.le_of_ble_eq_true rfl) (fun p e s m below meth c A ls C hl hP hD hS => wkX5_pop C z _ s.heap [] ls hz hP hD hS hl)

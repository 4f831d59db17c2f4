abbrev rmX3_isFull : Room := { frames := 0, cells := 0, slots := 0, locals := 0 }
theorem inX3_isFull_X3 : ∀ w ∈ wsX30, w ∈ wsX3_isFull := by decide +kernel
set_option maxRecDepth 100000 in
set_option maxHeartbeats 4000000 in
theorem wkX3_isFull {p : Program} {l : Launch} {e : Env} {s : State} {m : MethodId} {args : Array Value} {below : List Frame} {meth : Method} {c : Code} {D : va_G} {cI : ClassId} {A : Nat → Prop} {a0 a1 : Nat} {n : Nat} (C : cxt p s m args meth c cX3_isFull (some .boolean) 1 RX3 wsX3_isFull D vwCl [(cI, .int)] A) : ∀ (z : Int32) (u : TQ) (H : Heap) (locs : List Loc) (ls : Array Slot), fX3_isFull n u = z → va_P D vwCl (wQ a0 a1 cI n u) H → va_D A (wQ a0 a1 cI n u) → va_S A s.heap H locs → lv_has ls 1 [(0, .ref a0)] → W p l e rmX3_isFull s m args below meth c H locs 0 0 (MQ below (oI D vwCl [(cI, .int)] A z (wQ a0 a1 cI n u)) args s 0 0 A) (F0 m 0 ls []) := by
  have C0 := C
  obtain ⟨hx, hb, hr, hml, hown, hts, hlocks, hK, hA⟩ := C
  intro z u H locs ls hf hP hD hS hl
  unfold fX3_isFull at hf
  refine lv_aload_n hx hb dX3_isFull_0 rfl (lv_at hl 0 rfl) ?_
  refine va_get (D := D) (ci := 2) (v := .int (gQ_many u)) (C := RX3) (T := TX3) (N := 3) hx hb hts inX3_isFull_X3 hown hK hP 0 rfl rfl 2 (by decide) (hts (.fieldLink RX3 13 "BlockCache$Queue" "many" "I") (by decide +kernel)) (fun _ h9 => h9) rfl dX3_isFull_1 ?_
  refine lv_aload_n hx hb dX3_isFull_4 rfl (lv_at hl 0 rfl) ?_
  refine va_get (D := D) (ci := 2) (v := .ref a1) (C := RX3) (T := TX3) (N := 3) hx hb hts inX3_isFull_X3 hown hK hP 0 rfl rfl 0 (by decide) (hts (.fieldLink RX3 7 "BlockCache$Queue" "ring" "[I") (by decide +kernel)) (fun _ h9 => h9) rfl dX3_isFull_5 ?_
  refine va_alen (v := (Int32.ofNat n)) hx hb hK hP 1 0 rfl rfl rfl dX3_isFull_8 ?_
  refine lv_icmp_lt (tgt := 16) hx hb dX3_isFull_9 (by decide) (fun c_1 => ?_) (fun c_1 => ?_)
  · replace hf := pI_t c_1 hf
    refine lv_iconst (v := 0) hx hb dX3_isFull_16 (by decide) ?_
    have hz := hf
    subst hz
    exact gRetZ hx hb hr hlocks hK hP hD hS (by decide) rfl rfl dX3_isFull_17
  · replace hf := pI_f c_1 hf
    refine lv_iconst (v := 1) hx hb dX3_isFull_12 (by decide) ?_
    refine lv_goto (tgt := 17) hx hb dX3_isFull_13 (by decide) ?_
    have hz := hf
    subst hz
    exact gRetZ hx hb hr hlocks hK hP hD hS (by decide) rfl rfl dX3_isFull_17
theorem ctX3_isFull (l : Launch) (D : va_G) (cI : ClassId) (a0 a1 : Nat) (n : Nat) (u : TQ) (z : Int32) (hz : fX3_isFull n u = z) : CtI l yX3_isFull wsX3_isFull rmX3_isFull D vwCl [(cI, .int)] [.ref a0] (wQ a0 a1 cI n u) z (wQ a0 a1 cI n u) :=
  ctI_of (cc := cX3_isFull) (maxL := 1) (ret := (some .boolean)) (by decide) rfl (Nat.le_of_ble_eq_true rfl) (fun p e s m below meth c A ls C hl hP hD hS => wkX3_isFull C z _ s.heap [] ls hz hP hD hS hl)
abbrev rmX3_wrapped : Room := { frames := 0, cells := 0, slots := 0, locals := 0 }
theorem inX3_wrapped_X3 : ∀ w ∈ wsX30, w ∈ wsX3_wrapped := by decide +kernel
set_option maxRecDepth 100000 in
set_option maxHeartbeats 4000000 in
theorem wkX3_wrapped {p : Program} {l : Launch} {e : Env} {s : State} {m : MethodId} {args : Array Value} {below : List Frame} {meth : Method} {c : Code} {D : va_G} {cI : ClassId} {A : Nat → Prop} {a0 a1 : Nat} {n : Nat} (C : cxt p s m args meth c cX3_wrapped (some .int) 2 RX3 wsX3_wrapped D vwCl [(cI, .int)] A) : ∀ (z : Int32) (u : TQ) (x1 : Int32) (H : Heap) (locs : List Loc) (ls : Array Slot), fX3_wrapped n u x1 = z → va_P D vwCl (wQ a0 a1 cI n u) H → va_D A (wQ a0 a1 cI n u) → va_S A s.heap H locs → lv_has ls 2 [(0, .ref a0), (1, .int x1)] → W p l e rmX3_wrapped s m args below meth c H locs 0 0 (MQ below (oI D vwCl [(cI, .int)] A z (wQ a0 a1 cI n u)) args s 0 0 A) (F0 m 0 ls []) := by
  have C0 := C
  obtain ⟨hx, hb, hr, hml, hown, hts, hlocks, hK, hA⟩ := C
  intro z u x1 H locs ls hf hP hD hS hl
  unfold fX3_wrapped at hf
  refine lv_iload_n hx hb dX3_wrapped_0 rfl (lv_at hl 1 rfl) ?_
  refine lv_aload_n hx hb dX3_wrapped_1 rfl (lv_at hl 0 rfl) ?_
  refine va_get (D := D) (ci := 2) (v := .ref a1) (C := RX3) (T := TX3) (N := 3) hx hb hts inX3_wrapped_X3 hown hK hP 0 rfl rfl 0 (by decide) (hts (.fieldLink RX3 7 "BlockCache$Queue" "ring" "[I") (by decide +kernel)) (fun _ h9 => h9) rfl dX3_wrapped_2 ?_
  refine va_alen (v := (Int32.ofNat n)) hx hb hK hP 1 0 rfl rfl rfl dX3_wrapped_5 ?_
  refine lv_icmp_ge (tgt := 13) hx hb dX3_wrapped_6 (by decide) (fun c_1 => ?_) (fun c_1 => ?_)
  · replace hf := pI_t c_1 hf
    refine lv_iload_n hx hb dX3_wrapped_13 rfl (lv_at hl 1 rfl) ?_
    refine lv_aload_n hx hb dX3_wrapped_14 rfl (lv_at hl 0 rfl) ?_
    refine va_get (D := D) (ci := 2) (v := .ref a1) (C := RX3) (T := TX3) (N := 3) hx hb hts inX3_wrapped_X3 hown hK hP 0 rfl rfl 0 (by decide) (hts (.fieldLink RX3 7 "BlockCache$Queue" "ring" "[I") (by decide +kernel)) (fun _ h9 => h9) rfl dX3_wrapped_15 ?_
    refine va_alen (v := (Int32.ofNat n)) hx hb hK hP 1 0 rfl rfl rfl dX3_wrapped_18 ?_
    refine lv_isub hx hb dX3_wrapped_19 ?_
    have hz := hf
    subst hz
    exact gRetI hx hb hr hlocks hK hP hD hS rfl rfl dX3_wrapped_20
  · replace hf := pI_f c_1 hf
    refine lv_iload_n hx hb dX3_wrapped_9 rfl (lv_at hl 1 rfl) ?_
    refine lv_goto (tgt := 20) hx hb dX3_wrapped_10 (by decide) ?_
    have hz := hf
    subst hz
    exact gRetI hx hb hr hlocks hK hP hD hS rfl rfl dX3_wrapped_20
theorem ctX3_wrapped (l : Launch) (D : va_G) (cI : ClassId) (a0 a1 : Nat) (n : Nat) (u : TQ) (x1 : Int32) (z : Int32) (hz : fX3_wrapped n u x1 = z) : CtI l yX3_wrapped wsX3_wrapped rmX3_wrapped D vwCl [(cI, .int)] [.ref a0, .int x1] (wQ a0 a1 cI n u) z (wQ a0 a1 cI n u) :=
  ctI_of (cc := cX3_wrapped) (maxL := 2) (ret := (some .int)) (by decide) rfl (Nat.le_of_ble_eq_true rfl) (fun p e s m below meth c A ls C hl hP hD hS => wkX3_wrapped C z _ _ s.heap [] ls hz hP hD hS hl)
abbrev rmX3_append : Room := { frames := 1, cells := 0, slots := 0, locals := 21 }
theorem inX3_append_X3 : ∀ w ∈ wsX30, w ∈ wsX3_append := by decide +kernel
set_option maxRecDepth 100000 in
set_option maxHeartbeats 4000000 in
theorem wkX3_append {p : Program} {l : Launch} {e : Env} {s : State} {m : MethodId} {args : Array Value} {below : List Frame} {meth : Method} {c : Code} {D : va_G} {cI : ClassId} {A : Nat → Prop} {a0 a1 : Nat} {n : Nat} (C : cxt p s m args meth c cX3_append none 2 RX3 wsX3_append D vwCl [(cI, .int)] A) : ∀ (z : TQ) (u : TQ) (x1 : Int32) (H : Heap) (locs : List Loc) (ls : Array Slot), fX3_append n u x1 = some z → va_P D vwCl (wQ a0 a1 cI n u) H → va_D A (wQ a0 a1 cI n u) → va_S A s.heap H locs → lv_has ls 2 [(0, .ref a0), (1, .int x1)] → W p l e rmX3_append s m args below meth c H locs 0 0 (MQ below (oV D vwCl [(cI, .int)] A (wQ a0 a1 cI n z)) args s 0 0 A) (F0 m 0 ls []) := by
  have C0 := C
  obtain ⟨hx, hb, hr, hml, hown, hts, hlocks, hK, hA⟩ := C
  intro z u x1 H locs ls hf hP hD hS hl
  unfold fX3_append at hf
  refine lv_aload_n hx hb dX3_append_0 rfl (lv_at hl 0 rfl) ?_
  refine va_get (D := D) (ci := 2) (v := .ref a1) (C := RX3) (T := TX3) (N := 3) hx hb hts inX3_append_X3 hown hK hP 0 rfl rfl 0 (by decide) (hts (.fieldLink RX3 7 "BlockCache$Queue" "ring" "[I") (by decide +kernel)) (fun _ h9 => h9) rfl dX3_append_1 ?_
  refine lv_aload_n hx hb dX3_append_4 rfl (lv_at hl 0 rfl) ?_
  refine lv_aload_n hx hb dX3_append_5 rfl (lv_at hl 0 rfl) ?_
  refine va_get (D := D) (ci := 2) (v := .int (gQ_start u)) (C := RX3) (T := TX3) (N := 3) hx hb hts inX3_append_X3 hown hK hP 0 rfl rfl 1 (by decide) (hts (.fieldLink RX3 17 "BlockCache$Queue" "start" "I") (by decide +kernel)) (fun _ h9 => h9) rfl dX3_append_6 ?_
  refine lv_aload_n hx hb dX3_append_9 rfl (lv_at hl 0 rfl) ?_
  refine va_get (D := D) (ci := 2) (v := .int (gQ_many u)) (C := RX3) (T := TX3) (N := 3) hx hb hts inX3_append_X3 hown hK hP 0 rfl rfl 2 (by decide) (hts (.fieldLink RX3 13 "BlockCache$Queue" "many" "I") (by decide +kernel)) (fun _ h9 => h9) rfl dX3_append_10 ?_
  refine lv_iadd hx hb dX3_append_13 ?_
  obtain ⟨z_1, hz_1, hf⟩ := pLet_out hf
  refine gI (w' := (wQ a0 a1 cI n u)) (va_runV (As := [.int ((gQ_start u) + (gQ_many u))]) (rest := [.ref a1]) ⟨hx, hb, hml, hown, hts⟩ (ctX3_wrapped l D cI a0 a1 n u ((gQ_start u) + (gQ_many u)) z_1 hz_1.symm H.size) (cwV 1 hts gX3_append_X3_wrapped rfl rfl rfl (by decide +kernel) ⟨Nat.le_of_ble_eq_true rfl, Nat.le_of_ble_eq_true rfl⟩) (gPreV (ci := 2) (C := RX3) (T := TX3) (N := 3) hP hK hD [0, 1] (by decide) rfl 0 rfl rfl) rfl rfl hl.1 rfl (lv_room (Nat.le_of_ble_eq_true rfl)) dX3_append_14 ⟨Nat.le_of_ble_eq_true rfl, Nat.le_of_ble_eq_true rfl⟩) hP hD hS hA [0, 1] [] [0, 1] rfl rfl (by decide) (by decide) rfl (by decide) (fun H locs hP hD hS => ?_)
  refine lv_iload_n hx hb dX3_append_17 rfl (lv_at hl 1 rfl) ?_
  obtain ⟨h_2, hf⟩ := pIn_out hf
  refine va_iast hx hb hK hP hD hS 1 0 rfl rfl h_2 dX3_append_18 (fun H locs hP hD hS => ?_)
  obtain ⟨u_3, eu_3, hf⟩ := pLet_out hf
  replace hP : va_P D vwCl (wQ a0 a1 cI n u_3) H := by rw [eu_3]; exact hP
  replace hD : va_D A (wQ a0 a1 cI n u_3) := by rw [eu_3]; exact hD
  refine lv_aload_n hx hb dX3_append_19 rfl (lv_at hl 0 rfl) ?_
  refine lv_dup hx hb dX3_append_20 rfl ?_
  refine va_get (D := D) (ci := 2) (v := .int (gQ_many u_3)) (C := RX3) (T := TX3) (N := 3) hx hb hts inX3_append_X3 hown hK hP 0 rfl rfl 2 (by decide) (hts (.fieldLink RX3 13 "BlockCache$Queue" "many" "I") (by decide +kernel)) (fun _ h9 => h9) rfl dX3_append_21 ?_
  refine lv_iconst (v := 1) hx hb dX3_append_24 (by decide) ?_
  refine lv_iadd hx hb dX3_append_25 ?_
  refine va_put (D := D) (ci := 2) (v := .int ((gQ_many u_3) + 1)) (ty := .int) (C := RX3) (T := TX3) (N := 3) hx hb hts inX3_append_X3 tyX3 tyX3_ok nmX3 hown hK hP hD hS 0 rfl rfl 2 (by decide) (hts (.fieldLink RX3 13 "BlockCache$Queue" "many" "I") (by decide +kernel)) (fun _ h9 => h9) rfl (by decide +kernel) rfl rfl (Nat.le_of_ble_eq_true rfl) dX3_append_26 (fun H locs hP hD hS => ?_)
  obtain ⟨u_4, eu_4, hf⟩ := pLet_out hf
  replace hP : va_P D vwCl (wQ a0 a1 cI n u_4) H := by rw [eu_4]; exact hP
  replace hD : va_D A (wQ a0 a1 cI n u_4) := by rw [eu_4]; exact hD
  have hz := Option.some.inj hf
  subst hz
  exact gRetV hx hb hr hlocks hK hP hD hS rfl dX3_append_29
theorem ctX3_append (l : Launch) (D : va_G) (cI : ClassId) (a0 a1 : Nat) (n : Nat) (u : TQ) (x1 : Int32) (z : TQ) (hz : fX3_append n u x1 = some z) : CtV l yX3_append wsX3_append rmX3_append D vwCl [(cI, .int)] [.ref a0, .int x1] (wQ a0 a1 cI n u) (wQ a0 a1 cI n z) :=
  ctV_of (cc := cX3_append) (maxL := 2) (ret := none) (by decide) rfl (Nat.le_of_ble_eq_true rfl) (fun p e s m below meth c A ls C hl hP hD hS => wkX3_append C z _ _ s.heap [] ls hz hP hD hS hl)
abbrev rmX3_first : Room := { frames := 0, cells := 0, slots := 0, locals := 0 }
theorem inX3_first_X3 : ∀ w ∈ wsX30, w ∈ wsX3_first := by decide +kernel
set_option maxRecDepth 100000 in
set_option maxHeartbeats 4000000 in
theorem wkX3_first {p : Program} {l : Launch} {e : Env} {s : State} {m : MethodId} {args : Array Value} {below : List Frame} {meth : Method} {c : Code} {D : va_G} {cI : ClassId} {A : Nat → Prop} {a0 a1 : Nat} {n : Nat} (C : cxt p s m args meth c cX3_first (some .int) 1 RX3 wsX3_first D vwCl [(cI, .int)] A) : ∀ (z : Int32) (u : TQ) (H : Heap) (locs : List Loc) (ls : Array Slot), fX3_first n u = some z → va_P D vwCl (wQ a0 a1 cI n u) H → va_D A (wQ a0 a1 cI n u) → va_S A s.heap H locs → lv_has ls 1 [(0, .ref a0)] → W p l e rmX3_first s m args below meth c H locs 0 0 (MQ below (oI D vwCl [(cI, .int)] A z (wQ a0 a1 cI n u)) args s 0 0 A) (F0 m 0 ls []) := by
  have C0 := C
  obtain ⟨hx, hb, hr, hml, hown, hts, hlocks, hK, hA⟩ := C
  intro z u H locs ls hf hP hD hS hl
  unfold fX3_first at hf
  refine lv_aload_n hx hb dX3_first_0 rfl (lv_at hl 0 rfl) ?_
  refine va_get (D := D) (ci := 2) (v := .ref a1) (C := RX3) (T := TX3) (N := 3) hx hb hts inX3_first_X3 hown hK hP 0 rfl rfl 0 (by decide) (hts (.fieldLink RX3 7 "BlockCache$Queue" "ring" "[I") (by decide +kernel)) (fun _ h9 => h9) rfl dX3_first_1 ?_
  refine lv_aload_n hx hb dX3_first_4 rfl (lv_at hl 0 rfl) ?_
  refine va_get (D := D) (ci := 2) (v := .int (gQ_start u)) (C := RX3) (T := TX3) (N := 3) hx hb hts inX3_first_X3 hown hK hP 0 rfl rfl 1 (by decide) (hts (.fieldLink RX3 17 "BlockCache$Queue" "start" "I") (by decide +kernel)) (fun _ h9 => h9) rfl dX3_first_5 ?_
  obtain ⟨h_1, hf⟩ := pIn_out hf
  refine va_iald hx hb hK hP 1 0 rfl rfl h_1 dX3_first_8 ?_
  have hz := Option.some.inj hf
  subst hz
  exact gRetI hx hb hr hlocks hK hP hD hS rfl rfl dX3_first_9
theorem ctX3_first (l : Launch) (D : va_G) (cI : ClassId) (a0 a1 : Nat) (n : Nat) (u : TQ) (z : Int32) (hz : fX3_first n u = some z) : CtI l yX3_first wsX3_first rmX3_first D vwCl [(cI, .int)] [.ref a0] (wQ a0 a1 cI n u) z (wQ a0 a1 cI n u) :=
  ctI_of (cc := cX3_first) (maxL := 1) (ret := (some .int)) (by decide) rfl (Nat.le_of_ble_eq_true rfl) (fun p e s m below meth c A ls C hl hP hD hS => wkX3_first C z _ s.heap [] ls hz hP hD hS hl)
abbrev rmX3_takeFirst : Room := { frames := 1, cells := 0, slots := 0, locals := 21 }
theorem inX3_takeFirst_X3 : ∀ w ∈ wsX30, w ∈ wsX3_takeFirst := by decide +kernel
set_option maxRecDepth 100000 in
set_option maxHeartbeats 4000000 in
theorem wkX3_takeFirst {p : Program} {l : Launch} {e : Env} {s : State} {m : MethodId} {args : Array Value} {below : List Frame} {meth : Method} {c : Code} {D : va_G} {cI : ClassId} {A : Nat → Prop} {a0 a1 : Nat} {n : Nat} (C : cxt p s m args meth c cX3_takeFirst (some .int) 2 RX3 wsX3_takeFirst D vwCl [(cI, .int)] A) : ∀ (z : Int32 × TQ) (u : TQ) (H : Heap) (locs : List Loc) (ls : Array Slot), fX3_takeFirst n u = some z → va_P D vwCl (wQ a0 a1 cI n u) H → va_D A (wQ a0 a1 cI n u) → va_S A s.heap H locs → lv_has ls 2 [(0, .ref a0)] → W p l e rmX3_takeFirst s m args below meth c H locs 0 0 (MQ below (oI D vwCl [(cI, .int)] A z.1 (wQ a0 a1 cI n z.2)) args s 0 0 A) (F0 m 0 ls []) := by
  have C0 := C
  obtain ⟨hx, hb, hr, hml, hown, hts, hlocks, hK, hA⟩ := C
  intro z u H locs ls hf hP hD hS hl
  unfold fX3_takeFirst at hf
  refine lv_aload_n hx hb dX3_takeFirst_0 rfl (lv_at hl 0 rfl) ?_
  refine va_get (D := D) (ci := 2) (v := .ref a1) (C := RX3) (T := TX3) (N := 3) hx hb hts inX3_takeFirst_X3 hown hK hP 0 rfl rfl 0 (by decide) (hts (.fieldLink RX3 7 "BlockCache$Queue" "ring" "[I") (by decide +kernel)) (fun _ h9 => h9) rfl dX3_takeFirst_1 ?_
  refine lv_aload_n hx hb dX3_takeFirst_4 rfl (lv_at hl 0 rfl) ?_
  refine va_get (D := D) (ci := 2) (v := .int (gQ_start u)) (C := RX3) (T := TX3) (N := 3) hx hb hts inX3_takeFirst_X3 hown hK hP 0 rfl rfl 1 (by decide) (hts (.fieldLink RX3 17 "BlockCache$Queue" "start" "I") (by decide +kernel)) (fun _ h9 => h9) rfl dX3_takeFirst_5 ?_
  obtain ⟨h_1, hf⟩ := pIn_out hf
  refine va_iald hx hb hK hP 1 0 rfl rfl h_1 dX3_takeFirst_8 ?_
  obtain ⟨x_2, ex_2, hf⟩ := pLet_out hf
  refine gTop ex_2 ?_
  refine lv_istore_n (lv' := [(1, .int x_2), (0, .ref a0)]) hx hb dX3_takeFirst_9 rfl hl (by decide) rfl (fun ls hl => ?_)
  refine lv_aload_n hx hb dX3_takeFirst_10 rfl (lv_at hl 1 rfl) ?_
  refine lv_aload_n hx hb dX3_takeFirst_11 rfl (lv_at hl 1 rfl) ?_
  refine lv_aload_n hx hb dX3_takeFirst_12 rfl (lv_at hl 1 rfl) ?_
  refine va_get (D := D) (ci := 2) (v := .int (gQ_start u)) (C := RX3) (T := TX3) (N := 3) hx hb hts inX3_takeFirst_X3 hown hK hP 0 rfl rfl 1 (by decide) (hts (.fieldLink RX3 17 "BlockCache$Queue" "start" "I") (by decide +kernel)) (fun _ h9 => h9) rfl dX3_takeFirst_13 ?_
  refine lv_iconst (v := 1) hx hb dX3_takeFirst_16 (by decide) ?_
  refine lv_iadd hx hb dX3_takeFirst_17 ?_
  obtain ⟨z_3, hz_3, hf⟩ := pLet_out hf
  refine gI (w' := (wQ a0 a1 cI n u)) (va_runV (As := [.int ((gQ_start u) + 1)]) (rest := [.ref a0]) ⟨hx, hb, hml, hown, hts⟩ (ctX3_wrapped l D cI a0 a1 n u ((gQ_start u) + 1) z_3 hz_3.symm H.size) (cwV 1 hts gX3_takeFirst_X3_wrapped rfl rfl rfl (by decide +kernel) ⟨Nat.le_of_ble_eq_true rfl, Nat.le_of_ble_eq_true rfl⟩) (gPreV (ci := 2) (C := RX3) (T := TX3) (N := 3) hP hK hD [0, 1] (by decide) rfl 0 rfl rfl) rfl rfl hl.1 rfl (lv_room (Nat.le_of_ble_eq_true rfl)) dX3_takeFirst_18 ⟨Nat.le_of_ble_eq_true rfl, Nat.le_of_ble_eq_true rfl⟩) hP hD hS hA [0, 1] [] [0, 1] rfl rfl (by decide) (by decide) rfl (by decide) (fun H locs hP hD hS => ?_)
  refine va_put (D := D) (ci := 2) (v := .int z_3) (ty := .int) (C := RX3) (T := TX3) (N := 3) hx hb hts inX3_takeFirst_X3 tyX3 tyX3_ok nmX3 hown hK hP hD hS 0 rfl rfl 1 (by decide) (hts (.fieldLink RX3 17 "BlockCache$Queue" "start" "I") (by decide +kernel)) (fun _ h9 => h9) rfl (by decide +kernel) rfl rfl (Nat.le_of_ble_eq_true rfl) dX3_takeFirst_21 (fun H locs hP hD hS => ?_)
  obtain ⟨u_4, eu_4, hf⟩ := pLet_out hf
  replace hP : va_P D vwCl (wQ a0 a1 cI n u_4) H := by rw [eu_4]; exact hP
  replace hD : va_D A (wQ a0 a1 cI n u_4) := by rw [eu_4]; exact hD
  refine lv_aload_n hx hb dX3_takeFirst_24 rfl (lv_at hl 1 rfl) ?_
  refine lv_dup hx hb dX3_takeFirst_25 rfl ?_
  refine va_get (D := D) (ci := 2) (v := .int (gQ_many u_4)) (C := RX3) (T := TX3) (N := 3) hx hb hts inX3_takeFirst_X3 hown hK hP 0 rfl rfl 2 (by decide) (hts (.fieldLink RX3 13 "BlockCache$Queue" "many" "I") (by decide +kernel)) (fun _ h9 => h9) rfl dX3_takeFirst_26 ?_
  refine lv_iconst (v := 1) hx hb dX3_takeFirst_29 (by decide) ?_
  refine lv_isub hx hb dX3_takeFirst_30 ?_
  refine va_put (D := D) (ci := 2) (v := .int ((gQ_many u_4) - 1)) (ty := .int) (C := RX3) (T := TX3) (N := 3) hx hb hts inX3_takeFirst_X3 tyX3 tyX3_ok nmX3 hown hK hP hD hS 0 rfl rfl 2 (by decide) (hts (.fieldLink RX3 13 "BlockCache$Queue" "many" "I") (by decide +kernel)) (fun _ h9 => h9) rfl (by decide +kernel) rfl rfl (Nat.le_of_ble_eq_true rfl) dX3_takeFirst_31 (fun H locs hP hD hS => ?_)
  obtain ⟨u_5, eu_5, hf⟩ := pLet_out hf
  replace hP : va_P D vwCl (wQ a0 a1 cI n u_5) H := by rw [eu_5]; exact hP
  replace hD : va_D A (wQ a0 a1 cI n u_5) := by rw [eu_5]; exact hD
  refine lv_iload_n hx hb dX3_takeFirst_34 rfl (lv_at hl 0 rfl) ?_
  have hz := Option.some.inj hf
  subst hz
  exact gRetI hx hb hr hlocks hK hP hD hS rfl rfl dX3_takeFirst_35
theorem ctX3_takeFirst (l : Launch) (D : va_G) (cI : ClassId) (a0 a1 : Nat) (n : Nat) (u : TQ) (z : Int32 × TQ) (hz : fX3_takeFirst n u = some z) : CtI l yX3_takeFirst wsX3_takeFirst rmX3_takeFirst D vwCl [(cI, .int)] [.ref a0] (wQ a0 a1 cI n u) z.1 (wQ a0 a1 cI n z.2) :=
  ctI_of (cc := cX3_takeFirst) (maxL := 2) (ret := (some .int)) (by decide) rfl (Nat.le_of_ble_eq_true rfl) (fun p e s m below meth c A ls C hl hP hD hS => wkX3_takeFirst C z _ s.heap [] ls hz hP hD hS hl)
abbrev rmX3_at : Room := { frames := 1, cells := 0, slots := 0, locals := 21 }
theorem inX3_at_X3 : ∀ w ∈ wsX30, w ∈ wsX3_at := by decide +kernel
set_option maxRecDepth 100000 in
set_option maxHeartbeats 4000000 in
theorem wkX3_at {p : Program} {l : Launch} {e : Env} {s : State} {m : MethodId} {args : Array Value} {below : List Frame} {meth : Method} {c : Code} {D : va_G} {cI : ClassId} {A : Nat → Prop} {a0 a1 : Nat} {n : Nat} (C : cxt p s m args meth c cX3_at (some .int) 2 RX3 wsX3_at D vwCl [(cI, .int)] A) : ∀ (z : Int32) (u : TQ) (x1 : Int32) (H : Heap) (locs : List Loc) (ls : Array Slot), fX3_at n u x1 = some z → va_P D vwCl (wQ a0 a1 cI n u) H → va_D A (wQ a0 a1 cI n u) → va_S A s.heap H locs → lv_has ls 2 [(0, .ref a0), (1, .int x1)] → W p l e rmX3_at s m args below meth c H locs 0 0 (MQ below (oI D vwCl [(cI, .int)] A z (wQ a0 a1 cI n u)) args s 0 0 A) (F0 m 0 ls []) := by
  have C0 := C
  obtain ⟨hx, hb, hr, hml, hown, hts, hlocks, hK, hA⟩ := C
  intro z u x1 H locs ls hf hP hD hS hl
  unfold fX3_at at hf
  refine lv_aload_n hx hb dX3_at_0 rfl (lv_at hl 0 rfl) ?_
  refine va_get (D := D) (ci := 2) (v := .ref a1) (C := RX3) (T := TX3) (N := 3) hx hb hts inX3_at_X3 hown hK hP 0 rfl rfl 0 (by decide) (hts (.fieldLink RX3 7 "BlockCache$Queue" "ring" "[I") (by decide +kernel)) (fun _ h9 => h9) rfl dX3_at_1 ?_
  refine lv_aload_n hx hb dX3_at_4 rfl (lv_at hl 0 rfl) ?_
  refine lv_aload_n hx hb dX3_at_5 rfl (lv_at hl 0 rfl) ?_
  refine va_get (D := D) (ci := 2) (v := .int (gQ_start u)) (C := RX3) (T := TX3) (N := 3) hx hb hts inX3_at_X3 hown hK hP 0 rfl rfl 1 (by decide) (hts (.fieldLink RX3 17 "BlockCache$Queue" "start" "I") (by decide +kernel)) (fun _ h9 => h9) rfl dX3_at_6 ?_
  refine lv_iload_n hx hb dX3_at_9 rfl (lv_at hl 1 rfl) ?_
  refine lv_iadd hx hb dX3_at_10 ?_
  obtain ⟨z_1, hz_1, hf⟩ := pLet_out hf
  refine gI (w' := (wQ a0 a1 cI n u)) (va_runV (As := [.int ((gQ_start u) + x1)]) (rest := [.ref a1]) ⟨hx, hb, hml, hown, hts⟩ (ctX3_wrapped l D cI a0 a1 n u ((gQ_start u) + x1) z_1 hz_1.symm H.size) (cwV 1 hts gX3_at_X3_wrapped rfl rfl rfl (by decide +kernel) ⟨Nat.le_of_ble_eq_true rfl, Nat.le_of_ble_eq_true rfl⟩) (gPreV (ci := 2) (C := RX3) (T := TX3) (N := 3) hP hK hD [0, 1] (by decide) rfl 0 rfl rfl) rfl rfl hl.1 rfl (lv_room (Nat.le_of_ble_eq_true rfl)) dX3_at_11 ⟨Nat.le_of_ble_eq_true rfl, Nat.le_of_ble_eq_true rfl⟩) hP hD hS hA [0, 1] [] [0, 1] rfl rfl (by decide) (by decide) rfl (by decide) (fun H locs hP hD hS => ?_)
  obtain ⟨h_2, hf⟩ := pIn_out hf
  refine va_iald hx hb hK hP 1 0 rfl rfl h_2 dX3_at_14 ?_
  have hz := Option.some.inj hf
  subst hz
  exact gRetI hx hb hr hlocks hK hP hD hS rfl rfl dX3_at_15
theorem ctX3_at (l : Launch) (D : va_G) (cI : ClassId) (a0 a1 : Nat) (n : Nat) (u : TQ) (x1 : Int32) (z : Int32) (hz : fX3_at n u x1 = some z) : CtI l yX3_at wsX3_at rmX3_at D vwCl [(cI, .int)] [.ref a0, .int x1] (wQ a0 a1 cI n u) z (wQ a0 a1 cI n u) :=
  ctI_of (cc := cX3_at) (maxL := 2) (ret := (some .int)) (by decide) rfl (Nat.le_of_ble_eq_true rfl) (fun p e s m below meth c A ls C hl hP hD hS => wkX3_at C z _ _ s.heap [] ls hz hP hD hS hl)

abbrev rmX5_step : Room := { frames := 5, cells := 0, slots := 0, locals := 113 }
theorem inX5_step_X5 : ∀ w ∈ wsX50, w ∈ wsX5_step := by decide +kernel
set_option maxRecDepth 100000 in
set_option maxHeartbeats 4000000 in
theorem wkX5_step_b218 {p : Program} {l : Launch} {e : Env} {s : State} {m : MethodId} {args : Array Value} {below : List Frame} {meth : Method} {c : Code} {D : va_G} {cI : ClassId} {A : Nat → Prop} {a0 a1 a2 a3 a4 a5 a6 a7 a8 a9 a10 a11 a12 a13 : Nat} (C : cxt p s m args meth c cX5_step none 7 RX5 wsX5_step D vwCl [(cI, .int)] A) : ∀ (z : TM) (u : TM) (H : Heap) (locs : List Loc) (ls : Array Slot), fX5_step_b218 u = some z → va_P D vwCl (wM a0 a1 a2 a3 a4 a5 a6 a7 a8 a9 a10 a11 a12 a13 cI u) H → va_D A (wM a0 a1 a2 a3 a4 a5 a6 a7 a8 a9 a10 a11 a12 a13 cI u) → va_S A s.heap H locs → lv_has ls 7 [(0, .ref a0)] → W p l e rmX5_step s m args below meth c H locs 0 0 (MQ below (oV D vwCl [(cI, .int)] A (wM a0 a1 a2 a3 a4 a5 a6 a7 a8 a9 a10 a11 a12 a13 cI z)) args s 0 0 A) (F0 m 218 ls []) := by
  have C0 := C
  obtain ⟨hx, hb, hr, hml, hown, hts, hlocks, hK, hA⟩ := C
  intro z u H locs ls hf hP hD hS hl
  unfold fX5_step_b218 at hf
  refine lv_aload_n hx hb dX5_step_218 rfl (lv_at hl 0 rfl) ?_
  refine va_get (D := D) (ci := 4) (v := .ref a12) (C := RX5) (T := TX5) (N := 27) hx hb hts inX5_step_X5 hown hK hP 0 rfl rfl 17 (by decide) (hts (.fieldLink RX5 50 "BlockCacheModel" "counts" "[I") (by decide +kernel)) (fun _ h9 => h9) rfl dX5_step_219 ?_
  refine lv_bipush (v := 10) hx hb dX5_step_222 (by decide) ?_
  refine lv_dup2_11 hx hb dX5_step_224 rfl rfl ?_
  obtain ⟨h_1, hf⟩ := pIn_out hf
  refine va_iald hx hb hK hP 12 0 rfl rfl h_1 dX5_step_225 ?_
  refine lv_iconst (v := 1) hx hb dX5_step_226 (by decide) ?_
  refine lv_iadd hx hb dX5_step_227 ?_
  obtain ⟨h_2, hf⟩ := pIn_out hf
  refine va_iast hx hb hK hP hD hS 12 0 rfl rfl h_2 dX5_step_228 (fun H locs hP hD hS => ?_)
  obtain ⟨u_3, eu_3, hf⟩ := pLet_out hf
  replace hP : va_P D vwCl (wM a0 a1 a2 a3 a4 a5 a6 a7 a8 a9 a10 a11 a12 a13 cI u_3) H := by rw [eu_3]; exact hP
  replace hD : va_D A (wM a0 a1 a2 a3 a4 a5 a6 a7 a8 a9 a10 a11 a12 a13 cI u_3) := by rw [eu_3]; exact hD
  refine lv_goto (tgt := 447) hx hb dX5_step_229 (by decide) ?_
  have hz := Option.some.inj hf
  subst hz
  exact gRetV hx hb hr hlocks hK hP hD hS rfl dX5_step_447
set_option maxRecDepth 100000 in
set_option maxHeartbeats 4000000 in
theorem wkX5_step_b258 {p : Program} {l : Launch} {e : Env} {s : State} {m : MethodId} {args : Array Value} {below : List Frame} {meth : Method} {c : Code} {D : va_G} {cI : ClassId} {A : Nat → Prop} {a0 a1 a2 a3 a4 a5 a6 a7 a8 a9 a10 a11 a12 a13 : Nat} (C : cxt p s m args meth c cX5_step none 7 RX5 wsX5_step D vwCl [(cI, .int)] A) : ∀ (z : TM) (u : TM) (y0 : Int32) (y1 : Int32) (H : Heap) (locs : List Loc) (ls : Array Slot), fX5_step_b258 u y0 y1 = some z → va_P D vwCl (wM a0 a1 a2 a3 a4 a5 a6 a7 a8 a9 a10 a11 a12 a13 cI u) H → va_D A (wM a0 a1 a2 a3 a4 a5 a6 a7 a8 a9 a10 a11 a12 a13 cI u) → va_S A s.heap H locs → lv_has ls 7 [] → W p l e rmX5_step s m args below meth c H locs 0 0 (MQ below (oV D vwCl [(cI, .int)] A (wM a0 a1 a2 a3 a4 a5 a6 a7 a8 a9 a10 a11 a12 a13 cI z)) args s 0 0 A) (F0 m 258 ls [.int y0, .int y1, .ref a2]) := by
  have C0 := C
  obtain ⟨hx, hb, hr, hml, hown, hts, hlocks, hK, hA⟩ := C
  intro z u y0 y1 H locs ls hf hP hD hS hl
  unfold fX5_step_b258 at hf
  obtain ⟨h_1, hf⟩ := pIn_out hf
  refine va_iast hx hb hK hP hD hS 2 0 rfl rfl h_1 dX5_step_258 (fun H locs hP hD hS => ?_)
  obtain ⟨u_2, eu_2, hf⟩ := pLet_out hf
  replace hP : va_P D vwCl (wM a0 a1 a2 a3 a4 a5 a6 a7 a8 a9 a10 a11 a12 a13 cI u_2) H := by rw [eu_2]; exact hP
  replace hD : va_D A (wM a0 a1 a2 a3 a4 a5 a6 a7 a8 a9 a10 a11 a12 a13 cI u_2) := by rw [eu_2]; exact hD
  refine lv_goto (tgt := 447) hx hb dX5_step_259 (by decide) ?_
  have hz := Option.some.inj hf
  subst hz
  exact gRetV hx hb hr hlocks hK hP hD hS rfl dX5_step_447
set_option maxRecDepth 100000 in
set_option maxHeartbeats 4000000 in
theorem wkX5_step_b239 {p : Program} {l : Launch} {e : Env} {s : State} {m : MethodId} {args : Array Value} {below : List Frame} {meth : Method} {c : Code} {D : va_G} {cI : ClassId} {A : Nat → Prop} {a0 a1 a2 a3 a4 a5 a6 a7 a8 a9 a10 a11 a12 a13 : Nat} (C : cxt p s m args meth c cX5_step none 7 RX5 wsX5_step D vwCl [(cI, .int)] A) : ∀ (z : TM) (u : TM) (H : Heap) (locs : List Loc) (ls : Array Slot), fX5_step_b239 u = some z → va_P D vwCl (wM a0 a1 a2 a3 a4 a5 a6 a7 a8 a9 a10 a11 a12 a13 cI u) H → va_D A (wM a0 a1 a2 a3 a4 a5 a6 a7 a8 a9 a10 a11 a12 a13 cI u) → va_S A s.heap H locs → lv_has ls 7 [(0, .ref a0)] → W p l e rmX5_step s m args below meth c H locs 0 0 (MQ below (oV D vwCl [(cI, .int)] A (wM a0 a1 a2 a3 a4 a5 a6 a7 a8 a9 a10 a11 a12 a13 cI z)) args s 0 0 A) (F0 m 239 ls []) := by
  have C0 := C
  obtain ⟨hx, hb, hr, hml, hown, hts, hlocks, hK, hA⟩ := C
  intro z u H locs ls hf hP hD hS hl
  unfold fX5_step_b239 at hf
  refine lv_aload_n hx hb dX5_step_239 rfl (lv_at hl 0 rfl) ?_
  refine va_get (D := D) (ci := 4) (v := .ref a2) (C := RX5) (T := TX5) (N := 27) hx hb hts inX5_step_X5 hown hK hP 0 rfl rfl 2 (by decide) (hts (.fieldLink RX5 13 "BlockCacheModel" "reg" "[I") (by decide +kernel)) (fun _ h9 => h9) rfl dX5_step_240 ?_
  refine lv_bipush (v := 8) hx hb dX5_step_243 (by decide) ?_
  refine lv_aload_n hx hb dX5_step_245 rfl (lv_at hl 0 rfl) ?_
  refine va_get (D := D) (ci := 4) (v := .int (gM_kind u)) (C := RX5) (T := TX5) (N := 27) hx hb hts inX5_step_X5 hown hK hP 0 rfl rfl 18 (by decide) (hts (.fieldLink RX5 66 "BlockCacheModel" "kind" "I") (by decide +kernel)) (fun _ h9 => h9) rfl dX5_step_246 ?_
  refine lv_iconst (v := 4) hx hb dX5_step_249 (by decide) ?_
  refine lv_icmp_ne (tgt := 257) hx hb dX5_step_250 (by decide) (fun c_1 => ?_) (fun c_1 => ?_)
  · replace hf := pI_f c_1 hf
    refine lv_iconst (v := 0) hx hb dX5_step_257 (by decide) ?_
    exact wkX5_step_b258 C0 _ _ _ _ H locs ls hf hP hD hS (lv_sub hl [] rfl)
  · replace hf := pI_t c_1 hf
    refine lv_iconst (v := 1) hx hb dX5_step_253 (by decide) ?_
    refine lv_goto (tgt := 258) hx hb dX5_step_254 (by decide) ?_
    exact wkX5_step_b258 C0 _ _ _ _ H locs ls hf hP hD hS (lv_sub hl [] rfl)
set_option maxRecDepth 100000 in
set_option maxHeartbeats 4000000 in
theorem wkX5_step_b307 {p : Program} {l : Launch} {e : Env} {s : State} {m : MethodId} {args : Array Value} {below : List Frame} {meth : Method} {c : Code} {D : va_G} {cI : ClassId} {A : Nat → Prop} {a0 a1 a2 a3 a4 a5 a6 a7 a8 a9 a10 a11 a12 a13 : Nat} (C : cxt p s m args meth c cX5_step none 7 RX5 wsX5_step D vwCl [(cI, .int)] A) : ∀ (z : TM) (u : TM) (y0 : Int32) (y1 : Int32) (y2 : Int32) (H : Heap) (locs : List Loc) (ls : Array Slot), fX5_step_b307 u y0 y1 y2 = some z → va_P D vwCl (wM a0 a1 a2 a3 a4 a5 a6 a7 a8 a9 a10 a11 a12 a13 cI u) H → va_D A (wM a0 a1 a2 a3 a4 a5 a6 a7 a8 a9 a10 a11 a12 a13 cI u) → va_S A s.heap H locs → lv_has ls 7 [] → W p l e rmX5_step s m args below meth c H locs 0 0 (MQ below (oV D vwCl [(cI, .int)] A (wM a0 a1 a2 a3 a4 a5 a6 a7 a8 a9 a10 a11 a12 a13 cI z)) args s 0 0 A) (F0 m 307 ls [.int y0, .int y1, .int y2, .ref a0]) := by
  have C0 := C
  obtain ⟨hx, hb, hr, hml, hown, hts, hlocks, hK, hA⟩ := C
  intro z u y0 y1 y2 H locs ls hf hP hD hS hl
  unfold fX5_step_b307 at hf
  obtain ⟨z_1, hz_1, hf⟩ := pB_out hf
  refine gV (w' := (wM a0 a1 a2 a3 a4 a5 a6 a7 a8 a9 a10 a11 a12 a13 cI z_1)) (va_runV (As := [.int y2, .int y1, .int y0]) (rest := []) ⟨hx, hb, hml, hown, hts⟩ (ctX5_add l D cI a0 a1 a2 a3 a4 a5 a6 a7 a8 a9 a10 a11 a12 a13 u y2 y1 y0 z_1 hz_1 H.size) (cwV 3 hts gX5_step_X5_add rfl rfl rfl (by decide +kernel) ⟨Nat.le_of_ble_eq_true rfl, Nat.le_of_ble_eq_true rfl⟩) (gPreV (ci := 4) (C := RX5) (T := TX5) (N := 27) hP hK hD [0, 1, 2, 3, 4, 5, 6, 7, 8, 9, 10, 11, 12, 13] (by decide) rfl 0 rfl rfl) rfl rfl hl.1 rfl (lv_room (Nat.le_of_ble_eq_true rfl)) dX5_step_307 ⟨Nat.le_of_ble_eq_true rfl, Nat.le_of_ble_eq_true rfl⟩) hP hD hS hA [0, 1, 2, 3, 4, 5, 6, 7, 8, 9, 10, 11, 12, 13] [] [0, 1, 2, 3, 4, 5, 6, 7, 8, 9, 10, 11, 12, 13] rfl rfl (by decide) (by decide) rfl (by decide) (fun H locs hP hD hS => ?_)
  refine lv_goto (tgt := 447) hx hb dX5_step_310 (by decide) ?_
  have hz := Option.some.inj hf
  subst hz
  exact gRetV hx hb hr hlocks hK hP hD hS rfl dX5_step_447
set_option maxRecDepth 100000 in
set_option maxHeartbeats 4000000 in
theorem wkX5_step_b278 {p : Program} {l : Launch} {e : Env} {s : State} {m : MethodId} {args : Array Value} {below : List Frame} {meth : Method} {c : Code} {D : va_G} {cI : ClassId} {A : Nat → Prop} {a0 a1 a2 a3 a4 a5 a6 a7 a8 a9 a10 a11 a12 a13 : Nat} (C : cxt p s m args meth c cX5_step none 7 RX5 wsX5_step D vwCl [(cI, .int)] A) : ∀ (z : TM) (u : TM) (x3 : Int32) (x4 : Int32) (H : Heap) (locs : List Loc) (ls : Array Slot), fX5_step_b278 u x3 x4 = some z → va_P D vwCl (wM a0 a1 a2 a3 a4 a5 a6 a7 a8 a9 a10 a11 a12 a13 cI u) H → va_D A (wM a0 a1 a2 a3 a4 a5 a6 a7 a8 a9 a10 a11 a12 a13 cI u) → va_S A s.heap H locs → lv_has ls 7 [(0, .ref a0), (3, .int x3), (4, .int x4)] → W p l e rmX5_step s m args below meth c H locs 0 0 (MQ below (oV D vwCl [(cI, .int)] A (wM a0 a1 a2 a3 a4 a5 a6 a7 a8 a9 a10 a11 a12 a13 cI z)) args s 0 0 A) (F0 m 278 ls []) := by
  have C0 := C
  obtain ⟨hx, hb, hr, hml, hown, hts, hlocks, hK, hA⟩ := C
  intro z u x3 x4 H locs ls hf hP hD hS hl
  unfold fX5_step_b278 at hf
  refine lv_aload_n hx hb dX5_step_278 rfl (lv_at hl 0 rfl) ?_
  refine lv_iload_n hx hb dX5_step_279 rfl (lv_at hl 1 rfl) ?_
  refine lv_aload_n hx hb dX5_step_280 rfl (lv_at hl 0 rfl) ?_
  refine va_get (D := D) (ci := 4) (v := .ref a2) (C := RX5) (T := TX5) (N := 27) hx hb hts inX5_step_X5 hown hK hP 0 rfl rfl 2 (by decide) (hts (.fieldLink RX5 13 "BlockCacheModel" "reg" "[I") (by decide +kernel)) (fun _ h9 => h9) rfl dX5_step_281 ?_
  refine lv_iload hx hb dX5_step_284 (lv_at hl 2 rfl) ?_
  obtain ⟨h_1, hf⟩ := pIn_out hf
  refine va_iald hx hb hK hP 2 0 rfl rfl h_1 dX5_step_286 ?_
  refine lv_aload_n hx hb dX5_step_287 rfl (lv_at hl 0 rfl) ?_
  refine va_get (D := D) (ci := 4) (v := .int (gM_kind u)) (C := RX5) (T := TX5) (N := 27) hx hb hts inX5_step_X5 hown hK hP 0 rfl rfl 18 (by decide) (hts (.fieldLink RX5 66 "BlockCacheModel" "kind" "I") (by decide +kernel)) (fun _ h9 => h9) rfl dX5_step_288 ?_
  refine lv_bipush (v := 8) hx hb dX5_step_291 (by decide) ?_
  refine lv_icmp_ne (tgt := 306) hx hb dX5_step_293 (by decide) (fun c_2 => ?_) (fun c_2 => ?_)
  · replace hf := pI_f c_2 hf
    refine lv_iconst (v := 0) hx hb dX5_step_306 (by decide) ?_
    exact wkX5_step_b307 C0 _ _ _ _ _ H locs ls hf hP hD hS (lv_sub hl [] rfl)
  · replace hf := pI_t c_2 hf
    refine lv_aload_n hx hb dX5_step_296 rfl (lv_at hl 0 rfl) ?_
    refine va_get (D := D) (ci := 4) (v := .ref a2) (C := RX5) (T := TX5) (N := 27) hx hb hts inX5_step_X5 hown hK hP 0 rfl rfl 2 (by decide) (hts (.fieldLink RX5 13 "BlockCacheModel" "reg" "[I") (by decide +kernel)) (fun _ h9 => h9) rfl dX5_step_297 ?_
    refine lv_bipush (v := 6) hx hb dX5_step_300 (by decide) ?_
    obtain ⟨h_3, hf⟩ := pIn_out hf
    refine va_iald hx hb hK hP 2 0 rfl rfl h_3 dX5_step_302 ?_
    refine lv_goto (tgt := 307) hx hb dX5_step_303 (by decide) ?_
    exact wkX5_step_b307 C0 _ _ _ _ _ H locs ls hf hP hD hS (lv_sub hl [] rfl)
set_option maxRecDepth 100000 in
set_option maxHeartbeats 4000000 in
theorem wkX5_step_b406 {p : Program} {l : Launch} {e : Env} {s : State} {m : MethodId} {args : Array Value} {below : List Frame} {meth : Method} {c : Code} {D : va_G} {cI : ClassId} {A : Nat → Prop} {a0 a1 a2 a3 a4 a5 a6 a7 a8 a9 a10 a11 a12 a13 : Nat} (C : cxt p s m args meth c cX5_step none 7 RX5 wsX5_step D vwCl [(cI, .int)] A) : ∀ (z : TM) (u : TM) (x3 : Int32) (y0 : Int32) (y1 : Int32) (H : Heap) (locs : List Loc) (ls : Array Slot), fX5_step_b406 u x3 y0 y1 = some z → va_P D vwCl (wM a0 a1 a2 a3 a4 a5 a6 a7 a8 a9 a10 a11 a12 a13 cI u) H → va_D A (wM a0 a1 a2 a3 a4 a5 a6 a7 a8 a9 a10 a11 a12 a13 cI u) → va_S A s.heap H locs → lv_has ls 7 [(0, .ref a0), (3, .int x3)] → W p l e rmX5_step s m args below meth c H locs 0 0 (MQ below (oV D vwCl [(cI, .int)] A (wM a0 a1 a2 a3 a4 a5 a6 a7 a8 a9 a10 a11 a12 a13 cI z)) args s 0 0 A) (F0 m 406 ls [.int y0, .int y1, .ref a2]) := by
  have C0 := C
  obtain ⟨hx, hb, hr, hml, hown, hts, hlocks, hK, hA⟩ := C
  intro z u x3 y0 y1 H locs ls hf hP hD hS hl
  unfold fX5_step_b406 at hf
  obtain ⟨h_1, hf⟩ := pIn_out hf
  refine va_iast hx hb hK hP hD hS 2 0 rfl rfl h_1 dX5_step_406 (fun H locs hP hD hS => ?_)
  obtain ⟨u_2, eu_2, hf⟩ := pLet_out hf
  replace hP : va_P D vwCl (wM a0 a1 a2 a3 a4 a5 a6 a7 a8 a9 a10 a11 a12 a13 cI u_2) H := by rw [eu_2]; exact hP
  replace hD : va_D A (wM a0 a1 a2 a3 a4 a5 a6 a7 a8 a9 a10 a11 a12 a13 cI u_2) := by rw [eu_2]; exact hD
  refine lv_aload_n hx hb dX5_step_407 rfl (lv_at hl 0 rfl) ?_
  refine lv_aload_n hx hb dX5_step_408 rfl (lv_at hl 0 rfl) ?_
  refine va_get (D := D) (ci := 4) (v := .ref a2) (C := RX5) (T := TX5) (N := 27) hx hb hts inX5_step_X5 hown hK hP 0 rfl rfl 2 (by decide) (hts (.fieldLink RX5 13 "BlockCacheModel" "reg" "[I") (by decide +kernel)) (fun _ h9 => h9) rfl dX5_step_409 ?_
  refine lv_iload_n hx hb dX5_step_412 rfl (lv_at hl 1 rfl) ?_
  obtain ⟨h_3, hf⟩ := pIn_out hf
  refine va_iald hx hb hK hP 2 0 rfl rfl h_3 dX5_step_413 ?_
  refine lv_iconst (v := 0) hx hb dX5_step_414 (by decide) ?_
  obtain ⟨z_4, hz_4, hf⟩ := pB_out hf
  refine gV (w' := (wM a0 a1 a2 a3 a4 a5 a6 a7 a8 a9 a10 a11 a12 a13 cI z_4)) (va_runV (As := [.int ((gM_reg u_2) x3.toNatClampNeg), .int 0]) (rest := []) ⟨hx, hb, hml, hown, hts⟩ (ctX5_setFlags l D cI a0 a1 a2 a3 a4 a5 a6 a7 a8 a9 a10 a11 a12 a13 u_2 ((gM_reg u_2) x3.toNatClampNeg) 0 z_4 hz_4 H.size) (cwV 2 hts gX5_step_X5_setFlags rfl rfl rfl (by decide +kernel) ⟨Nat.le_of_ble_eq_true rfl, Nat.le_of_ble_eq_true rfl⟩) (gPreV (ci := 4) (C := RX5) (T := TX5) (N := 27) hP hK hD [0, 1, 2, 3, 4, 5, 6, 7, 8, 9, 10, 11, 12, 13] (by decide) rfl 0 rfl rfl) rfl rfl hl.1 rfl (lv_room (Nat.le_of_ble_eq_true rfl)) dX5_step_415 ⟨Nat.le_of_ble_eq_true rfl, Nat.le_of_ble_eq_true rfl⟩) hP hD hS hA [0, 1, 2, 3, 4, 5, 6, 7, 8, 9, 10, 11, 12, 13] [] [0, 1, 2, 3, 4, 5, 6, 7, 8, 9, 10, 11, 12, 13] rfl rfl (by decide) (by decide) rfl (by decide) (fun H locs hP hD hS => ?_)
  refine lv_goto (tgt := 447) hx hb dX5_step_418 (by decide) ?_
  have hz := Option.some.inj hf
  subst hz
  exact gRetV hx hb hr hlocks hK hP hD hS rfl dX5_step_447
set_option maxRecDepth 100000 in
set_option maxHeartbeats 4000000 in
theorem wkX5_step_b361 {p : Program} {l : Launch} {e : Env} {s : State} {m : MethodId} {args : Array Value} {below : List Frame} {meth : Method} {c : Code} {D : va_G} {cI : ClassId} {A : Nat → Prop} {a0 a1 a2 a3 a4 a5 a6 a7 a8 a9 a10 a11 a12 a13 : Nat} (C : cxt p s m args meth c cX5_step none 7 RX5 wsX5_step D vwCl [(cI, .int)] A) : ∀ (z : TM) (u : TM) (x3 : Int32) (x4 : Int32) (H : Heap) (locs : List Loc) (ls : Array Slot), fX5_step_b361 u x3 x4 = some z → va_P D vwCl (wM a0 a1 a2 a3 a4 a5 a6 a7 a8 a9 a10 a11 a12 a13 cI u) H → va_D A (wM a0 a1 a2 a3 a4 a5 a6 a7 a8 a9 a10 a11 a12 a13 cI u) → va_S A s.heap H locs → lv_has ls 7 [(0, .ref a0), (3, .int x3), (4, .int x4)] → W p l e rmX5_step s m args below meth c H locs 0 0 (MQ below (oV D vwCl [(cI, .int)] A (wM a0 a1 a2 a3 a4 a5 a6 a7 a8 a9 a10 a11 a12 a13 cI z)) args s 0 0 A) (F0 m 361 ls []) := by
  have C0 := C
  obtain ⟨hx, hb, hr, hml, hown, hts, hlocks, hK, hA⟩ := C
  intro z u x3 x4 H locs ls hf hP hD hS hl
  unfold fX5_step_b361 at hf
  refine lv_aload_n hx hb dX5_step_361 rfl (lv_at hl 0 rfl) ?_
  refine va_get (D := D) (ci := 4) (v := .ref a2) (C := RX5) (T := TX5) (N := 27) hx hb hts inX5_step_X5 hown hK hP 0 rfl rfl 2 (by decide) (hts (.fieldLink RX5 13 "BlockCacheModel" "reg" "[I") (by decide +kernel)) (fun _ h9 => h9) rfl dX5_step_362 ?_
  refine lv_iload_n hx hb dX5_step_365 rfl (lv_at hl 1 rfl) ?_
  refine lv_aload_n hx hb dX5_step_366 rfl (lv_at hl 0 rfl) ?_
  refine va_get (D := D) (ci := 4) (v := .int (gM_kind u)) (C := RX5) (T := TX5) (N := 27) hx hb hts inX5_step_X5 hown hK hP 0 rfl rfl 18 (by decide) (hts (.fieldLink RX5 66 "BlockCacheModel" "kind" "I") (by decide +kernel)) (fun _ h9 => h9) rfl dX5_step_367 ?_
  refine lv_bipush (v := 11) hx hb dX5_step_370 (by decide) ?_
  refine lv_icmp_ne (tgt := 392) hx hb dX5_step_372 (by decide) (fun c_1 => ?_) (fun c_1 => ?_)
  · replace hf := pI_f c_1 hf
    refine lv_aload_n hx hb dX5_step_392 rfl (lv_at hl 0 rfl) ?_
    refine va_get (D := D) (ci := 4) (v := .ref a2) (C := RX5) (T := TX5) (N := 27) hx hb hts inX5_step_X5 hown hK hP 0 rfl rfl 2 (by decide) (hts (.fieldLink RX5 13 "BlockCacheModel" "reg" "[I") (by decide +kernel)) (fun _ h9 => h9) rfl dX5_step_393 ?_
    refine lv_iload_n hx hb dX5_step_396 rfl (lv_at hl 1 rfl) ?_
    obtain ⟨h_2, hf⟩ := pIn_out hf
    refine va_iald hx hb hK hP 2 0 rfl rfl h_2 dX5_step_397 ?_
    refine lv_aload_n hx hb dX5_step_398 rfl (lv_at hl 0 rfl) ?_
    refine va_get (D := D) (ci := 4) (v := .ref a2) (C := RX5) (T := TX5) (N := 27) hx hb hts inX5_step_X5 hown hK hP 0 rfl rfl 2 (by decide) (hts (.fieldLink RX5 13 "BlockCacheModel" "reg" "[I") (by decide +kernel)) (fun _ h9 => h9) rfl dX5_step_399 ?_
    refine lv_iload hx hb dX5_step_402 (lv_at hl 2 rfl) ?_
    obtain ⟨h_3, hf⟩ := pIn_out hf
    refine va_iald hx hb hK hP 2 0 rfl rfl h_3 dX5_step_404 ?_
    refine lv_ixor hx hb dX5_step_405 ?_
    exact wkX5_step_b406 C0 _ _ _ _ _ H locs ls hf hP hD hS (lv_sub hl [0, 1] rfl)
  · replace hf := pI_t c_1 hf
    refine lv_aload_n hx hb dX5_step_375 rfl (lv_at hl 0 rfl) ?_
    refine va_get (D := D) (ci := 4) (v := .ref a2) (C := RX5) (T := TX5) (N := 27) hx hb hts inX5_step_X5 hown hK hP 0 rfl rfl 2 (by decide) (hts (.fieldLink RX5 13 "BlockCacheModel" "reg" "[I") (by decide +kernel)) (fun _ h9 => h9) rfl dX5_step_376 ?_
    refine lv_iload_n hx hb dX5_step_379 rfl (lv_at hl 1 rfl) ?_
    obtain ⟨h_4, hf⟩ := pIn_out hf
    refine va_iald hx hb hK hP 2 0 rfl rfl h_4 dX5_step_380 ?_
    refine lv_aload_n hx hb dX5_step_381 rfl (lv_at hl 0 rfl) ?_
    refine va_get (D := D) (ci := 4) (v := .ref a2) (C := RX5) (T := TX5) (N := 27) hx hb hts inX5_step_X5 hown hK hP 0 rfl rfl 2 (by decide) (hts (.fieldLink RX5 13 "BlockCacheModel" "reg" "[I") (by decide +kernel)) (fun _ h9 => h9) rfl dX5_step_382 ?_
    refine lv_iload hx hb dX5_step_385 (lv_at hl 2 rfl) ?_
    obtain ⟨h_5, hf⟩ := pIn_out hf
    refine va_iald hx hb hK hP 2 0 rfl rfl h_5 dX5_step_387 ?_
    refine lv_iand hx hb dX5_step_388 ?_
    refine lv_goto (tgt := 406) hx hb dX5_step_389 (by decide) ?_
    exact wkX5_step_b406 C0 _ _ _ _ _ H locs ls hf hP hD hS (lv_sub hl [0, 1] rfl)
set_option maxRecDepth 100000 in
set_option maxHeartbeats 4000000 in
theorem wkX5_step_b421 {p : Program} {l : Launch} {e : Env} {s : State} {m : MethodId} {args : Array Value} {below : List Frame} {meth : Method} {c : Code} {D : va_G} {cI : ClassId} {A : Nat → Prop} {a0 a1 a2 a3 a4 a5 a6 a7 a8 a9 a10 a11 a12 a13 : Nat} (C : cxt p s m args meth c cX5_step none 7 RX5 wsX5_step D vwCl [(cI, .int)] A) : ∀ (z : TM) (u : TM) (x3 : Int32) (H : Heap) (locs : List Loc) (ls : Array Slot), fX5_step_b421 u x3 = some z → va_P D vwCl (wM a0 a1 a2 a3 a4 a5 a6 a7 a8 a9 a10 a11 a12 a13 cI u) H → va_D A (wM a0 a1 a2 a3 a4 a5 a6 a7 a8 a9 a10 a11 a12 a13 cI u) → va_S A s.heap H locs → lv_has ls 7 [(0, .ref a0), (3, .int x3)] → W p l e rmX5_step s m args below meth c H locs 0 0 (MQ below (oV D vwCl [(cI, .int)] A (wM a0 a1 a2 a3 a4 a5 a6 a7 a8 a9 a10 a11 a12 a13 cI z)) args s 0 0 A) (F0 m 421 ls []) := by
  have C0 := C
  obtain ⟨hx, hb, hr, hml, hown, hts, hlocks, hK, hA⟩ := C
  intro z u x3 H locs ls hf hP hD hS hl
  unfold fX5_step_b421 at hf
  refine lv_aload_n hx hb dX5_step_421 rfl (lv_at hl 0 rfl) ?_
  refine lv_iload_n hx hb dX5_step_422 rfl (lv_at hl 1 rfl) ?_
  refine lv_aload_n hx hb dX5_step_423 rfl (lv_at hl 0 rfl) ?_
  refine va_get (D := D) (ci := 4) (v := .int (gM_kind u)) (C := RX5) (T := TX5) (N := 27) hx hb hts inX5_step_X5 hown hK hP 0 rfl rfl 18 (by decide) (hts (.fieldLink RX5 66 "BlockCacheModel" "kind" "I") (by decide +kernel)) (fun _ h9 => h9) rfl dX5_step_424 ?_
  obtain ⟨z_1, hz_1, hf⟩ := pB_out hf
  refine gV (w' := (wM a0 a1 a2 a3 a4 a5 a6 a7 a8 a9 a10 a11 a12 a13 cI z_1)) (va_runV (As := [.int x3, .int (gM_kind u)]) (rest := []) ⟨hx, hb, hml, hown, hts⟩ (ctX5_shift l D cI a0 a1 a2 a3 a4 a5 a6 a7 a8 a9 a10 a11 a12 a13 u x3 (gM_kind u) z_1 hz_1 H.size) (cwV 2 hts gX5_step_X5_shift rfl rfl rfl (by decide +kernel) ⟨Nat.le_of_ble_eq_true rfl, Nat.le_of_ble_eq_true rfl⟩) (gPreV (ci := 4) (C := RX5) (T := TX5) (N := 27) hP hK hD [0, 1, 2, 3, 4, 5, 6, 7, 8, 9, 10, 11, 12, 13] (by decide) rfl 0 rfl rfl) rfl rfl hl.1 rfl (lv_room (Nat.le_of_ble_eq_true rfl)) dX5_step_427 ⟨Nat.le_of_ble_eq_true rfl, Nat.le_of_ble_eq_true rfl⟩) hP hD hS hA [0, 1, 2, 3, 4, 5, 6, 7, 8, 9, 10, 11, 12, 13] [] [0, 1, 2, 3, 4, 5, 6, 7, 8, 9, 10, 11, 12, 13] rfl rfl (by decide) (by decide) rfl (by decide) (fun H locs hP hD hS => ?_)
  refine lv_goto (tgt := 447) hx hb dX5_step_430 (by decide) ?_
  have hz := Option.some.inj hf
  subst hz
  exact gRetV hx hb hr hlocks hK hP hD hS rfl dX5_step_447
set_option maxRecDepth 100000 in
set_option maxHeartbeats 4000000 in
theorem wkX5_step {p : Program} {l : Launch} {e : Env} {s : State} {m : MethodId} {args : Array Value} {below : List Frame} {meth : Method} {c : Code} {D : va_G} {cI : ClassId} {A : Nat → Prop} {a0 a1 a2 a3 a4 a5 a6 a7 a8 a9 a10 a11 a12 a13 : Nat} (C : cxt p s m args meth c cX5_step none 7 RX5 wsX5_step D vwCl [(cI, .int)] A) : ∀ (z : TM) (u : TM) (H : Heap) (locs : List Loc) (ls : Array Slot), fX5_step u = some z → va_P D vwCl (wM a0 a1 a2 a3 a4 a5 a6 a7 a8 a9 a10 a11 a12 a13 cI u) H → va_D A (wM a0 a1 a2 a3 a4 a5 a6 a7 a8 a9 a10 a11 a12 a13 cI u) → va_S A s.heap H locs → lv_has ls 7 [(0, .ref a0)] → W p l e rmX5_step s m args below meth c H locs 0 0 (MQ below (oV D vwCl [(cI, .int)] A (wM a0 a1 a2 a3 a4 a5 a6 a7 a8 a9 a10 a11 a12 a13 cI z)) args s 0 0 A) (F0 m 0 ls []) := by
  have C0 := C
  obtain ⟨hx, hb, hr, hml, hown, hts, hlocks, hK, hA⟩ := C
  intro z u H locs ls hf hP hD hS hl
  unfold fX5_step at hf
  refine lv_aload_n hx hb dX5_step_0 rfl (lv_at hl 0 rfl) ?_
  refine va_get (D := D) (ci := 4) (v := .ref a1) (C := RX5) (T := TX5) (N := 27) hx hb hts inX5_step_X5 hown hK hP 0 rfl rfl 1 (by decide) (hts (.fieldLink RX5 7 "BlockCacheModel" "memory" "[I") (by decide +kernel)) (fun _ h9 => h9) rfl dX5_step_1 ?_
  refine lv_aload_n hx hb dX5_step_4 rfl (lv_at hl 0 rfl) ?_
  refine va_get (D := D) (ci := 4) (v := .ref a2) (C := RX5) (T := TX5) (N := 27) hx hb hts inX5_step_X5 hown hK hP 0 rfl rfl 2 (by decide) (hts (.fieldLink RX5 13 "BlockCacheModel" "reg" "[I") (by decide +kernel)) (fun _ h9 => h9) rfl dX5_step_5 ?_
  refine lv_bipush (v := 9) hx hb dX5_step_8 (by decide) ?_
  obtain ⟨h_1, hf⟩ := pIn_out hf
  refine va_iald hx hb hK hP 2 0 rfl rfl h_1 dX5_step_10 ?_
  obtain ⟨h_2, hf⟩ := pIn_out hf
  refine va_iald hx hb hK hP 1 0 rfl rfl h_2 dX5_step_11 ?_
  obtain ⟨x_3, ex_3, hf⟩ := pLet_out hf
  refine gTop ex_3 ?_
  refine lv_istore_n (lv' := [(1, .int x_3), (0, .ref a0)]) hx hb dX5_step_12 rfl hl (by decide) rfl (fun ls hl => ?_)
  refine lv_aload_n hx hb dX5_step_13 rfl (lv_at hl 1 rfl) ?_
  refine lv_aload_n hx hb dX5_step_14 rfl (lv_at hl 1 rfl) ?_
  refine va_get (D := D) (ci := 4) (v := .ref a2) (C := RX5) (T := TX5) (N := 27) hx hb hts inX5_step_X5 hown hK hP 0 rfl rfl 2 (by decide) (hts (.fieldLink RX5 13 "BlockCacheModel" "reg" "[I") (by decide +kernel)) (fun _ h9 => h9) rfl dX5_step_15 ?_
  refine lv_bipush (v := 9) hx hb dX5_step_18 (by decide) ?_
  obtain ⟨h_4, hf⟩ := pIn_out hf
  refine va_iald hx hb hK hP 2 0 rfl rfl h_4 dX5_step_20 ?_
  obtain ⟨z_5, hz_5, hf⟩ := pB_out hf
  refine gV (w' := (wM a0 a1 a2 a3 a4 a5 a6 a7 a8 a9 a10 a11 a12 a13 cI z_5)) (va_runV (As := [.int ((gM_reg u) ((9 : Int32)).toNatClampNeg)]) (rest := []) ⟨hx, hb, hml, hown, hts⟩ (ctX5_look l D cI a0 a1 a2 a3 a4 a5 a6 a7 a8 a9 a10 a11 a12 a13 u ((gM_reg u) ((9 : Int32)).toNatClampNeg) z_5 hz_5 H.size) (cwV 1 hts gX5_step_X5_look rfl rfl rfl (by decide +kernel) ⟨Nat.le_of_ble_eq_true rfl, Nat.le_of_ble_eq_true rfl⟩) (gPreV (ci := 4) (C := RX5) (T := TX5) (N := 27) hP hK hD [0, 1, 2, 3, 4, 5, 6, 7, 8, 9, 10, 11, 12, 13] (by decide) rfl 0 rfl rfl) rfl rfl hl.1 rfl (lv_room (Nat.le_of_ble_eq_true rfl)) dX5_step_21 ⟨Nat.le_of_ble_eq_true rfl, Nat.le_of_ble_eq_true rfl⟩) hP hD hS hA [0, 1, 2, 3, 4, 5, 6, 7, 8, 9, 10, 11, 12, 13] [] [0, 1, 2, 3, 4, 5, 6, 7, 8, 9, 10, 11, 12, 13] rfl rfl (by decide) (by decide) rfl (by decide) (fun H locs hP hD hS => ?_)
  refine lv_aload_n hx hb dX5_step_24 rfl (lv_at hl 1 rfl) ?_
  refine va_get (D := D) (ci := 4) (v := .ref a1) (C := RX5) (T := TX5) (N := 27) hx hb hts inX5_step_X5 hown hK hP 0 rfl rfl 1 (by decide) (hts (.fieldLink RX5 7 "BlockCacheModel" "memory" "[I") (by decide +kernel)) (fun _ h9 => h9) rfl dX5_step_25 ?_
  refine lv_aload_n hx hb dX5_step_28 rfl (lv_at hl 1 rfl) ?_
  refine va_get (D := D) (ci := 4) (v := .ref a2) (C := RX5) (T := TX5) (N := 27) hx hb hts inX5_step_X5 hown hK hP 0 rfl rfl 2 (by decide) (hts (.fieldLink RX5 13 "BlockCacheModel" "reg" "[I") (by decide +kernel)) (fun _ h9 => h9) rfl dX5_step_29 ?_
  refine lv_bipush (v := 9) hx hb dX5_step_32 (by decide) ?_
  obtain ⟨h_6, hf⟩ := pIn_out hf
  refine va_iald hx hb hK hP 2 0 rfl rfl h_6 dX5_step_34 ?_
  refine lv_iconst (v := 1) hx hb dX5_step_35 (by decide) ?_
  refine lv_iadd hx hb dX5_step_36 ?_
  refine lv_sipush (v := 255) hx hb dX5_step_37 (by decide) ?_
  refine lv_iand hx hb dX5_step_40 ?_
  obtain ⟨h_7, hf⟩ := pIn_out hf
  refine va_iald hx hb hK hP 1 0 rfl rfl h_7 dX5_step_41 ?_
  obtain ⟨x_8, ex_8, hf⟩ := pLet_out hf
  refine gTop ex_8 ?_
  refine lv_istore_n (lv' := [(2, .int x_8), (1, .int x_3), (0, .ref a0)]) hx hb dX5_step_42 rfl hl (by decide) rfl (fun ls hl => ?_)
  refine lv_iload_n hx hb dX5_step_43 rfl (lv_at hl 1 rfl) ?_
  refine lv_iconst (v := 2) hx hb dX5_step_44 (by decide) ?_
  refine lv_ishr hx hb dX5_step_45 ?_
  refine lv_iconst (v := 3) hx hb dX5_step_46 (by decide) ?_
  refine lv_iand hx hb dX5_step_47 ?_
  obtain ⟨x_9, ex_9, hf⟩ := pLet_out hf
  refine gTop ex_9 ?_
  refine lv_istore_n (lv' := [(3, .int x_9), (2, .int x_8), (1, .int x_3), (0, .ref a0)]) hx hb dX5_step_48 rfl hl (by decide) rfl (fun ls hl => ?_)
  refine lv_iload_n hx hb dX5_step_49 rfl (lv_at hl 2 rfl) ?_
  refine lv_iconst (v := 3) hx hb dX5_step_50 (by decide) ?_
  refine lv_iand hx hb dX5_step_51 ?_
  obtain ⟨x_10, ex_10, hf⟩ := pLet_out hf
  refine gTop ex_10 ?_
  refine lv_istore (lv' := [(4, .int x_10), (3, .int x_9), (2, .int x_8), (1, .int x_3), (0, .ref a0)]) hx hb dX5_step_52 hl (by decide) rfl (fun ls hl => ?_)
  refine lv_aload_n hx hb dX5_step_54 rfl (lv_at hl 4 rfl) ?_
  refine va_get (D := D) (ci := 4) (v := .ref a2) (C := RX5) (T := TX5) (N := 27) hx hb hts inX5_step_X5 hown hK hP 0 rfl rfl 2 (by decide) (hts (.fieldLink RX5 13 "BlockCacheModel" "reg" "[I") (by decide +kernel)) (fun _ h9 => h9) rfl dX5_step_55 ?_
  refine lv_bipush (v := 9) hx hb dX5_step_58 (by decide) ?_
  obtain ⟨h_11, hf⟩ := pIn_out hf
  refine va_iald hx hb hK hP 2 0 rfl rfl h_11 dX5_step_60 ?_
  refine lv_aload_n hx hb dX5_step_61 rfl (lv_at hl 4 rfl) ?_
  refine va_get (D := D) (ci := 4) (v := .int (gM_bytes z_5)) (C := RX5) (T := TX5) (N := 27) hx hb hts inX5_step_X5 hown hK hP 0 rfl rfl 19 (by decide) (hts (.fieldLink RX5 69 "BlockCacheModel" "bytes" "I") (by decide +kernel)) (fun _ h9 => h9) rfl dX5_step_62 ?_
  refine lv_iadd hx hb dX5_step_65 ?_
  refine lv_sipush (v := 255) hx hb dX5_step_66 (by decide) ?_
  refine lv_iand hx hb dX5_step_69 ?_
  obtain ⟨x_12, ex_12, hf⟩ := pLet_out hf
  refine gTop ex_12 ?_
  refine lv_istore (lv' := [(5, .int x_12), (4, .int x_10), (3, .int x_9), (2, .int x_8), (1, .int x_3), (0, .ref a0)]) hx hb dX5_step_70 hl (by decide) rfl (fun ls hl => ?_)
  refine lv_aload_n hx hb dX5_step_72 rfl (lv_at hl 5 rfl) ?_
  refine va_get (D := D) (ci := 4) (v := .ref a2) (C := RX5) (T := TX5) (N := 27) hx hb hts inX5_step_X5 hown hK hP 0 rfl rfl 2 (by decide) (hts (.fieldLink RX5 13 "BlockCacheModel" "reg" "[I") (by decide +kernel)) (fun _ h9 => h9) rfl dX5_step_73 ?_
  refine lv_bipush (v := 9) hx hb dX5_step_76 (by decide) ?_
  refine lv_iload hx hb dX5_step_78 (lv_at hl 0 rfl) ?_
  obtain ⟨h_13, hf⟩ := pIn_out hf
  refine va_iast hx hb hK hP hD hS 2 0 rfl rfl h_13 dX5_step_80 (fun H locs hP hD hS => ?_)
  obtain ⟨u_14, eu_14, hf⟩ := pLet_out hf
  replace hP : va_P D vwCl (wM a0 a1 a2 a3 a4 a5 a6 a7 a8 a9 a10 a11 a12 a13 cI u_14) H := by rw [eu_14]; exact hP
  replace hD : va_D A (wM a0 a1 a2 a3 a4 a5 a6 a7 a8 a9 a10 a11 a12 a13 cI u_14) := by rw [eu_14]; exact hD
  refine lv_aload_n hx hb dX5_step_81 rfl (lv_at hl 5 rfl) ?_
  refine va_get (D := D) (ci := 4) (v := .ref a12) (C := RX5) (T := TX5) (N := 27) hx hb hts inX5_step_X5 hown hK hP 0 rfl rfl 17 (by decide) (hts (.fieldLink RX5 50 "BlockCacheModel" "counts" "[I") (by decide +kernel)) (fun _ h9 => h9) rfl dX5_step_82 ?_
  refine lv_iconst (v := 0) hx hb dX5_step_85 (by decide) ?_
  refine lv_dup2_11 hx hb dX5_step_86 rfl rfl ?_
  obtain ⟨h_15, hf⟩ := pIn_out hf
  refine va_iald hx hb hK hP 12 0 rfl rfl h_15 dX5_step_87 ?_
  refine lv_iconst (v := 1) hx hb dX5_step_88 (by decide) ?_
  refine lv_iadd hx hb dX5_step_89 ?_
  obtain ⟨h_16, hf⟩ := pIn_out hf
  refine va_iast hx hb hK hP hD hS 12 0 rfl rfl h_16 dX5_step_90 (fun H locs hP hD hS => ?_)
  obtain ⟨u_17, eu_17, hf⟩ := pLet_out hf
  replace hP : va_P D vwCl (wM a0 a1 a2 a3 a4 a5 a6 a7 a8 a9 a10 a11 a12 a13 cI u_17) H := by rw [eu_17]; exact hP
  replace hD : va_D A (wM a0 a1 a2 a3 a4 a5 a6 a7 a8 a9 a10 a11 a12 a13 cI u_17) := by rw [eu_17]; exact hD
  refine lv_aload_n hx hb dX5_step_91 rfl (lv_at hl 5 rfl) ?_
  refine va_get (D := D) (ci := 4) (v := .int (gM_kind u_17)) (C := RX5) (T := TX5) (N := 27) hx hb hts inX5_step_X5 hown hK hP 0 rfl rfl 18 (by decide) (hts (.fieldLink RX5 66 "BlockCacheModel" "kind" "I") (by decide +kernel)) (fun _ h9 => h9) rfl dX5_step_92 ?_
  obtain ⟨x_18, ex_18, hf⟩ := pLet_out hf
  refine gTop ex_18 ?_
  by_cases c_23 : x_18 = 1
  · replace hf := pI_t c_23 hf
    refine lv_tableIn (tgt := 172) (off := 77) hx hb dX5_step_95 (by rw [c_23]; decide) (by rw [c_23]; decide) (by rw [c_23]; rfl) (by decide) ?_
    refine lv_aload_n hx hb dX5_step_172 rfl (lv_at hl 5 rfl) ?_
    refine lv_iconst (v := 1) hx hb dX5_step_173 (by decide) ?_
    refine va_put (D := D) (ci := 4) (v := .int 1) (ty := .boolean) (C := RX5) (T := TX5) (N := 27) hx hb hts inX5_step_X5 tyX5 tyX5_ok nmX5 hown hK hP hD hS 0 rfl rfl 26 (by decide) (hts (.fieldLink RX5 127 "BlockCacheModel" "isOver" "Z") (by decide +kernel)) (fun _ h9 => h9) rfl (by decide +kernel) (by decide) (by decide) (Nat.le_of_ble_eq_true rfl) dX5_step_174 (fun H locs hP hD hS => ?_)
    obtain ⟨u_20, eu_20, hf⟩ := pLet_out hf
    replace hP : va_P D vwCl (wM a0 a1 a2 a3 a4 a5 a6 a7 a8 a9 a10 a11 a12 a13 cI u_20) H := by rw [eu_20]; exact hP
    replace hD : va_D A (wM a0 a1 a2 a3 a4 a5 a6 a7 a8 a9 a10 a11 a12 a13 cI u_20) := by rw [eu_20]; exact hD
    refine lv_aload_n hx hb dX5_step_177 rfl (lv_at hl 5 rfl) ?_
    refine va_get (D := D) (ci := 4) (v := .ref a12) (C := RX5) (T := TX5) (N := 27) hx hb hts inX5_step_X5 hown hK hP 0 rfl rfl 17 (by decide) (hts (.fieldLink RX5 50 "BlockCacheModel" "counts" "[I") (by decide +kernel)) (fun _ h9 => h9) rfl dX5_step_178 ?_
    refine lv_bipush (v := 11) hx hb dX5_step_181 (by decide) ?_
    refine lv_iconst (v := 1) hx hb dX5_step_183 (by decide) ?_
    obtain ⟨h_21, hf⟩ := pIn_out hf
    refine va_iast hx hb hK hP hD hS 12 0 rfl rfl h_21 dX5_step_184 (fun H locs hP hD hS => ?_)
    obtain ⟨u_22, eu_22, hf⟩ := pLet_out hf
    replace hP : va_P D vwCl (wM a0 a1 a2 a3 a4 a5 a6 a7 a8 a9 a10 a11 a12 a13 cI u_22) H := by rw [eu_22]; exact hP
    replace hD : va_D A (wM a0 a1 a2 a3 a4 a5 a6 a7 a8 a9 a10 a11 a12 a13 cI u_22) := by rw [eu_22]; exact hD
    refine lv_goto (tgt := 447) hx hb dX5_step_185 (by decide) ?_
    have hz := Option.some.inj hf
    subst hz
    exact gRetV hx hb hr hlocks hK hP hD hS rfl dX5_step_447
  · replace hf := pI_f c_23 hf
    by_cases c_30 : x_18 = 2
    · replace hf := pI_t c_30 hf
      refine lv_tableIn (tgt := 188) (off := 93) hx hb dX5_step_95 (by rw [c_30]; decide) (by rw [c_30]; decide) (by rw [c_30]; rfl) (by decide) ?_
      refine lv_aload_n hx hb dX5_step_188 rfl (lv_at hl 5 rfl) ?_
      refine va_get (D := D) (ci := 4) (v := .ref a12) (C := RX5) (T := TX5) (N := 27) hx hb hts inX5_step_X5 hown hK hP 0 rfl rfl 17 (by decide) (hts (.fieldLink RX5 50 "BlockCacheModel" "counts" "[I") (by decide +kernel)) (fun _ h9 => h9) rfl dX5_step_189 ?_
      refine lv_bipush (v := 10) hx hb dX5_step_192 (by decide) ?_
      obtain ⟨h_24, hf⟩ := pIn_out hf
      refine va_iald hx hb hK hP 12 0 rfl rfl h_24 dX5_step_194 ?_
      refine lv_bipush (v := 100) hx hb dX5_step_195 (by decide) ?_
      refine lv_icmp_ge (tgt := 218) hx hb dX5_step_197 (by decide) (fun c_25 => ?_) (fun c_25 => ?_)
      · replace hf := pI_t c_25 hf
        exact wkX5_step_b218 C0 _ _ H locs ls hf hP hD hS (lv_sub hl [5] rfl)
      · replace hf := pI_f c_25 hf
        refine lv_aload_n hx hb dX5_step_200 rfl (lv_at hl 5 rfl) ?_
        refine va_get (D := D) (ci := 4) (v := .ref a5) (C := RX5) (T := TX5) (N := 27) hx hb hts inX5_step_X5 hown hK hP 0 rfl rfl 8 (by decide) (hts (.fieldLink RX5 26 "BlockCacheModel" "given" "[I") (by decide +kernel)) (fun _ h9 => h9) rfl dX5_step_201 ?_
        refine lv_aload_n hx hb dX5_step_204 rfl (lv_at hl 5 rfl) ?_
        refine va_get (D := D) (ci := 4) (v := .ref a12) (C := RX5) (T := TX5) (N := 27) hx hb hts inX5_step_X5 hown hK hP 0 rfl rfl 17 (by decide) (hts (.fieldLink RX5 50 "BlockCacheModel" "counts" "[I") (by decide +kernel)) (fun _ h9 => h9) rfl dX5_step_205 ?_
        refine lv_bipush (v := 10) hx hb dX5_step_208 (by decide) ?_
        obtain ⟨h_26, hf⟩ := pIn_out hf
        refine va_iald hx hb hK hP 12 0 rfl rfl h_26 dX5_step_210 ?_
        refine lv_aload_n hx hb dX5_step_211 rfl (lv_at hl 5 rfl) ?_
        refine va_get (D := D) (ci := 4) (v := .ref a2) (C := RX5) (T := TX5) (N := 27) hx hb hts inX5_step_X5 hown hK hP 0 rfl rfl 2 (by decide) (hts (.fieldLink RX5 13 "BlockCacheModel" "reg" "[I") (by decide +kernel)) (fun _ h9 => h9) rfl dX5_step_212 ?_
        refine lv_iconst (v := 0) hx hb dX5_step_215 (by decide) ?_
        obtain ⟨h_27, hf⟩ := pIn_out hf
        refine va_iald hx hb hK hP 2 0 rfl rfl h_27 dX5_step_216 ?_
        obtain ⟨h_28, hf⟩ := pIn_out hf
        refine va_iast hx hb hK hP hD hS 5 0 rfl rfl h_28 dX5_step_217 (fun H locs hP hD hS => ?_)
        obtain ⟨u_29, eu_29, hf⟩ := pLet_out hf
        replace hP : va_P D vwCl (wM a0 a1 a2 a3 a4 a5 a6 a7 a8 a9 a10 a11 a12 a13 cI u_29) H := by rw [eu_29]; exact hP
        replace hD : va_D A (wM a0 a1 a2 a3 a4 a5 a6 a7 a8 a9 a10 a11 a12 a13 cI u_29) := by rw [eu_29]; exact hD
        exact wkX5_step_b218 C0 _ _ H locs ls hf hP hD hS (lv_sub hl [5] rfl)
    · replace hf := pI_f c_30 hf
      by_cases c_32 : x_18 = 3
      · replace hf := pI_t c_32 hf
        refine lv_tableIn (tgt := 232) (off := 137) hx hb dX5_step_95 (by rw [c_32]; decide) (by rw [c_32]; decide) (by rw [c_32]; rfl) (by decide) ?_
        refine lv_aload_n hx hb dX5_step_232 rfl (lv_at hl 5 rfl) ?_
        obtain ⟨z_31, hz_31, hf⟩ := pB_out hf
        refine gV (w' := (wM a0 a1 a2 a3 a4 a5 a6 a7 a8 a9 a10 a11 a12 a13 cI z_31)) (va_runV (As := []) (rest := []) ⟨hx, hb, hml, hown, hts⟩ (ctX5_receive l D cI a0 a1 a2 a3 a4 a5 a6 a7 a8 a9 a10 a11 a12 a13 u_17 z_31 hz_31 H.size) (cwV 0 hts gX5_step_X5_receive rfl rfl rfl (by decide +kernel) ⟨Nat.le_of_ble_eq_true rfl, Nat.le_of_ble_eq_true rfl⟩) (gPreV (ci := 4) (C := RX5) (T := TX5) (N := 27) hP hK hD [0, 1, 2, 3, 4, 5, 6, 7, 8, 9, 10, 11, 12, 13] (by decide) rfl 0 rfl rfl) rfl rfl hl.1 rfl (lv_room (Nat.le_of_ble_eq_true rfl)) dX5_step_233 ⟨Nat.le_of_ble_eq_true rfl, Nat.le_of_ble_eq_true rfl⟩) hP hD hS hA [0, 1, 2, 3, 4, 5, 6, 7, 8, 9, 10, 11, 12, 13] [] [0, 1, 2, 3, 4, 5, 6, 7, 8, 9, 10, 11, 12, 13] rfl rfl (by decide) (by decide) rfl (by decide) (fun H locs hP hD hS => ?_)
        refine lv_goto (tgt := 447) hx hb dX5_step_236 (by decide) ?_
        have hz := Option.some.inj hf
        subst hz
        exact gRetV hx hb hr hlocks hK hP hD hS rfl dX5_step_447
      · replace hf := pI_f c_32 hf
        by_cases c_33 : x_18 = 4
        · replace hf := pI_t c_33 hf
          refine lv_tableIn (tgt := 239) (off := 144) hx hb dX5_step_95 (by rw [c_33]; decide) (by rw [c_33]; decide) (by rw [c_33]; rfl) (by decide) ?_
          exact wkX5_step_b239 C0 _ _ H locs ls hf hP hD hS (lv_sub hl [5] rfl)
        · replace hf := pI_f c_33 hf
          by_cases c_34 : x_18 = 5
          · replace hf := pI_t c_34 hf
            refine lv_tableIn (tgt := 239) (off := 144) hx hb dX5_step_95 (by rw [c_34]; decide) (by rw [c_34]; decide) (by rw [c_34]; rfl) (by decide) ?_
            exact wkX5_step_b239 C0 _ _ H locs ls hf hP hD hS (lv_sub hl [5] rfl)
          · replace hf := pI_f c_34 hf
            by_cases c_38 : x_18 = 6
            · replace hf := pI_t c_38 hf
              refine lv_tableIn (tgt := 262) (off := 167) hx hb dX5_step_95 (by rw [c_38]; decide) (by rw [c_38]; decide) (by rw [c_38]; rfl) (by decide) ?_
              refine lv_aload_n hx hb dX5_step_262 rfl (lv_at hl 5 rfl) ?_
              refine va_get (D := D) (ci := 4) (v := .ref a2) (C := RX5) (T := TX5) (N := 27) hx hb hts inX5_step_X5 hown hK hP 0 rfl rfl 2 (by decide) (hts (.fieldLink RX5 13 "BlockCacheModel" "reg" "[I") (by decide +kernel)) (fun _ h9 => h9) rfl dX5_step_263 ?_
              refine lv_iload_n hx hb dX5_step_266 rfl (lv_at hl 2 rfl) ?_
              refine lv_aload_n hx hb dX5_step_267 rfl (lv_at hl 5 rfl) ?_
              refine va_get (D := D) (ci := 4) (v := .ref a2) (C := RX5) (T := TX5) (N := 27) hx hb hts inX5_step_X5 hown hK hP 0 rfl rfl 2 (by decide) (hts (.fieldLink RX5 13 "BlockCacheModel" "reg" "[I") (by decide +kernel)) (fun _ h9 => h9) rfl dX5_step_268 ?_
              refine lv_iload hx hb dX5_step_271 (lv_at hl 1 rfl) ?_
              obtain ⟨h_35, hf⟩ := pIn_out hf
              refine va_iald hx hb hK hP 2 0 rfl rfl h_35 dX5_step_273 ?_
              obtain ⟨h_36, hf⟩ := pIn_out hf
              refine va_iast hx hb hK hP hD hS 2 0 rfl rfl h_36 dX5_step_274 (fun H locs hP hD hS => ?_)
              obtain ⟨u_37, eu_37, hf⟩ := pLet_out hf
              replace hP : va_P D vwCl (wM a0 a1 a2 a3 a4 a5 a6 a7 a8 a9 a10 a11 a12 a13 cI u_37) H := by rw [eu_37]; exact hP
              replace hD : va_D A (wM a0 a1 a2 a3 a4 a5 a6 a7 a8 a9 a10 a11 a12 a13 cI u_37) := by rw [eu_37]; exact hD
              refine lv_goto (tgt := 447) hx hb dX5_step_275 (by decide) ?_
              have hz := Option.some.inj hf
              subst hz
              exact gRetV hx hb hr hlocks hK hP hD hS rfl dX5_step_447
            · replace hf := pI_f c_38 hf
              by_cases c_39 : x_18 = 7
              · replace hf := pI_t c_39 hf
                refine lv_tableIn (tgt := 278) (off := 183) hx hb dX5_step_95 (by rw [c_39]; decide) (by rw [c_39]; decide) (by rw [c_39]; rfl) (by decide) ?_
                exact wkX5_step_b278 C0 _ _ _ _ H locs ls hf hP hD hS (lv_sub hl [5, 2, 1] rfl)
              · replace hf := pI_f c_39 hf
                by_cases c_40 : x_18 = 8
                · replace hf := pI_t c_40 hf
                  refine lv_tableIn (tgt := 278) (off := 183) hx hb dX5_step_95 (by rw [c_40]; decide) (by rw [c_40]; decide) (by rw [c_40]; rfl) (by decide) ?_
                  exact wkX5_step_b278 C0 _ _ _ _ H locs ls hf hP hD hS (lv_sub hl [5, 2, 1] rfl)
                · replace hf := pI_f c_40 hf
                  by_cases c_46 : x_18 = 9
                  · replace hf := pI_t c_46 hf
                    refine lv_tableIn (tgt := 313) (off := 218) hx hb dX5_step_95 (by rw [c_46]; decide) (by rw [c_46]; decide) (by rw [c_46]; rfl) (by decide) ?_
                    refine lv_aload_n hx hb dX5_step_313 rfl (lv_at hl 5 rfl) ?_
                    refine va_get (D := D) (ci := 4) (v := .ref a2) (C := RX5) (T := TX5) (N := 27) hx hb hts inX5_step_X5 hown hK hP 0 rfl rfl 2 (by decide) (hts (.fieldLink RX5 13 "BlockCacheModel" "reg" "[I") (by decide +kernel)) (fun _ h9 => h9) rfl dX5_step_314 ?_
                    refine lv_iload_n hx hb dX5_step_317 rfl (lv_at hl 2 rfl) ?_
                    refine lv_aload_n hx hb dX5_step_318 rfl (lv_at hl 5 rfl) ?_
                    refine lv_aload_n hx hb dX5_step_319 rfl (lv_at hl 5 rfl) ?_
                    refine va_get (D := D) (ci := 4) (v := .ref a2) (C := RX5) (T := TX5) (N := 27) hx hb hts inX5_step_X5 hown hK hP 0 rfl rfl 2 (by decide) (hts (.fieldLink RX5 13 "BlockCacheModel" "reg" "[I") (by decide +kernel)) (fun _ h9 => h9) rfl dX5_step_320 ?_
                    refine lv_iload_n hx hb dX5_step_323 rfl (lv_at hl 2 rfl) ?_
                    obtain ⟨h_41, hf⟩ := pIn_out hf
                    refine va_iald hx hb hK hP 2 0 rfl rfl h_41 dX5_step_324 ?_
                    refine lv_aload_n hx hb dX5_step_325 rfl (lv_at hl 5 rfl) ?_
                    refine va_get (D := D) (ci := 4) (v := .ref a2) (C := RX5) (T := TX5) (N := 27) hx hb hts inX5_step_X5 hown hK hP 0 rfl rfl 2 (by decide) (hts (.fieldLink RX5 13 "BlockCacheModel" "reg" "[I") (by decide +kernel)) (fun _ h9 => h9) rfl dX5_step_326 ?_
                    refine lv_iload hx hb dX5_step_329 (lv_at hl 1 rfl) ?_
                    obtain ⟨h_42, hf⟩ := pIn_out hf
                    refine va_iald hx hb hK hP 2 0 rfl rfl h_42 dX5_step_331 ?_
                    obtain ⟨z_43, hz_43, hf⟩ := pB_out hf
                    refine gI (w' := (wM a0 a1 a2 a3 a4 a5 a6 a7 a8 a9 a10 a11 a12 a13 cI z_43.2)) (va_runV (As := [.int ((gM_reg u_17) x_9.toNatClampNeg), .int ((gM_reg u_17) x_10.toNatClampNeg)]) (rest := [.int x_9, .ref a2]) ⟨hx, hb, hml, hown, hts⟩ (ctX5_less l D cI a0 a1 a2 a3 a4 a5 a6 a7 a8 a9 a10 a11 a12 a13 u_17 ((gM_reg u_17) x_9.toNatClampNeg) ((gM_reg u_17) x_10.toNatClampNeg) z_43 hz_43 H.size) (cwV 2 hts gX5_step_X5_less rfl rfl rfl (by decide +kernel) ⟨Nat.le_of_ble_eq_true rfl, Nat.le_of_ble_eq_true rfl⟩) (gPreV (ci := 4) (C := RX5) (T := TX5) (N := 27) hP hK hD [0, 1, 2, 3, 4, 5, 6, 7, 8, 9, 10, 11, 12, 13] (by decide) rfl 0 rfl rfl) rfl rfl hl.1 rfl (lv_room (Nat.le_of_ble_eq_true rfl)) dX5_step_332 ⟨Nat.le_of_ble_eq_true rfl, Nat.le_of_ble_eq_true rfl⟩) hP hD hS hA [0, 1, 2, 3, 4, 5, 6, 7, 8, 9, 10, 11, 12, 13] [] [0, 1, 2, 3, 4, 5, 6, 7, 8, 9, 10, 11, 12, 13] rfl rfl (by decide) (by decide) rfl (by decide) (fun H locs hP hD hS => ?_)
                    obtain ⟨h_44, hf⟩ := pIn_out hf
                    refine va_iast hx hb hK hP hD hS 2 0 rfl rfl h_44 dX5_step_335 (fun H locs hP hD hS => ?_)
                    obtain ⟨u_45, eu_45, hf⟩ := pLet_out hf
                    replace hP : va_P D vwCl (wM a0 a1 a2 a3 a4 a5 a6 a7 a8 a9 a10 a11 a12 a13 cI u_45) H := by rw [eu_45]; exact hP
                    replace hD : va_D A (wM a0 a1 a2 a3 a4 a5 a6 a7 a8 a9 a10 a11 a12 a13 cI u_45) := by rw [eu_45]; exact hD
                    refine lv_goto (tgt := 447) hx hb dX5_step_336 (by decide) ?_
                    have hz := Option.some.inj hf
                    subst hz
                    exact gRetV hx hb hr hlocks hK hP hD hS rfl dX5_step_447
                  · replace hf := pI_f c_46 hf
                    by_cases c_50 : x_18 = 10
                    · replace hf := pI_t c_50 hf
                      refine lv_tableIn (tgt := 339) (off := 244) hx hb dX5_step_95 (by rw [c_50]; decide) (by rw [c_50]; decide) (by rw [c_50]; rfl) (by decide) ?_
                      refine lv_aload_n hx hb dX5_step_339 rfl (lv_at hl 5 rfl) ?_
                      refine lv_aload_n hx hb dX5_step_340 rfl (lv_at hl 5 rfl) ?_
                      refine va_get (D := D) (ci := 4) (v := .ref a2) (C := RX5) (T := TX5) (N := 27) hx hb hts inX5_step_X5 hown hK hP 0 rfl rfl 2 (by decide) (hts (.fieldLink RX5 13 "BlockCacheModel" "reg" "[I") (by decide +kernel)) (fun _ h9 => h9) rfl dX5_step_341 ?_
                      refine lv_iload_n hx hb dX5_step_344 rfl (lv_at hl 2 rfl) ?_
                      obtain ⟨h_47, hf⟩ := pIn_out hf
                      refine va_iald hx hb hK hP 2 0 rfl rfl h_47 dX5_step_345 ?_
                      refine lv_aload_n hx hb dX5_step_346 rfl (lv_at hl 5 rfl) ?_
                      refine va_get (D := D) (ci := 4) (v := .ref a2) (C := RX5) (T := TX5) (N := 27) hx hb hts inX5_step_X5 hown hK hP 0 rfl rfl 2 (by decide) (hts (.fieldLink RX5 13 "BlockCacheModel" "reg" "[I") (by decide +kernel)) (fun _ h9 => h9) rfl dX5_step_347 ?_
                      refine lv_iload hx hb dX5_step_350 (lv_at hl 1 rfl) ?_
                      obtain ⟨h_48, hf⟩ := pIn_out hf
                      refine va_iald hx hb hK hP 2 0 rfl rfl h_48 dX5_step_352 ?_
                      obtain ⟨z_49, hz_49, hf⟩ := pB_out hf
                      refine gI (w' := (wM a0 a1 a2 a3 a4 a5 a6 a7 a8 a9 a10 a11 a12 a13 cI z_49.2)) (va_runV (As := [.int ((gM_reg u_17) x_9.toNatClampNeg), .int ((gM_reg u_17) x_10.toNatClampNeg)]) (rest := []) ⟨hx, hb, hml, hown, hts⟩ (ctX5_less l D cI a0 a1 a2 a3 a4 a5 a6 a7 a8 a9 a10 a11 a12 a13 u_17 ((gM_reg u_17) x_9.toNatClampNeg) ((gM_reg u_17) x_10.toNatClampNeg) z_49 hz_49 H.size) (cwV 2 hts gX5_step_X5_less rfl rfl rfl (by decide +kernel) ⟨Nat.le_of_ble_eq_true rfl, Nat.le_of_ble_eq_true rfl⟩) (gPreV (ci := 4) (C := RX5) (T := TX5) (N := 27) hP hK hD [0, 1, 2, 3, 4, 5, 6, 7, 8, 9, 10, 11, 12, 13] (by decide) rfl 0 rfl rfl) rfl rfl hl.1 rfl (lv_room (Nat.le_of_ble_eq_true rfl)) dX5_step_353 ⟨Nat.le_of_ble_eq_true rfl, Nat.le_of_ble_eq_true rfl⟩) hP hD hS hA [0, 1, 2, 3, 4, 5, 6, 7, 8, 9, 10, 11, 12, 13] [] [0, 1, 2, 3, 4, 5, 6, 7, 8, 9, 10, 11, 12, 13] rfl rfl (by decide) (by decide) rfl (by decide) (fun H locs hP hD hS => ?_)
                      refine lv_istore (lv' := [(6, .int z_49.1), (5, .int x_12), (4, .int x_10), (3, .int x_9), (2, .int x_8), (1, .int x_3), (0, .ref a0)]) hx hb dX5_step_356 hl (by decide) rfl (fun ls hl => ?_)
                      refine lv_goto (tgt := 447) hx hb dX5_step_358 (by decide) ?_
                      have hz := Option.some.inj hf
                      subst hz
                      exact gRetV hx hb hr hlocks hK hP hD hS rfl dX5_step_447
                    · replace hf := pI_f c_50 hf
                      by_cases c_51 : x_18 = 11
                      · replace hf := pI_t c_51 hf
                        refine lv_tableIn (tgt := 361) (off := 266) hx hb dX5_step_95 (by rw [c_51]; decide) (by rw [c_51]; decide) (by rw [c_51]; rfl) (by decide) ?_
                        exact wkX5_step_b361 C0 _ _ _ _ H locs ls hf hP hD hS (lv_sub hl [5, 2, 1] rfl)
                      · replace hf := pI_f c_51 hf
                        by_cases c_52 : x_18 = 12
                        · replace hf := pI_t c_52 hf
                          refine lv_tableIn (tgt := 361) (off := 266) hx hb dX5_step_95 (by rw [c_52]; decide) (by rw [c_52]; decide) (by rw [c_52]; rfl) (by decide) ?_
                          exact wkX5_step_b361 C0 _ _ _ _ H locs ls hf hP hD hS (lv_sub hl [5, 2, 1] rfl)
                        · replace hf := pI_f c_52 hf
                          by_cases c_53 : x_18 = 13
                          · replace hf := pI_t c_53 hf
                            refine lv_tableIn (tgt := 421) (off := 326) hx hb dX5_step_95 (by rw [c_53]; decide) (by rw [c_53]; decide) (by rw [c_53]; rfl) (by decide) ?_
                            exact wkX5_step_b421 C0 _ _ _ H locs ls hf hP hD hS (lv_sub hl [5, 2] rfl)
                          · replace hf := pI_f c_53 hf
                            by_cases c_54 : x_18 = 14
                            · replace hf := pI_t c_54 hf
                              refine lv_tableIn (tgt := 421) (off := 326) hx hb dX5_step_95 (by rw [c_54]; decide) (by rw [c_54]; decide) (by rw [c_54]; rfl) (by decide) ?_
                              exact wkX5_step_b421 C0 _ _ _ H locs ls hf hP hD hS (lv_sub hl [5, 2] rfl)
                            · replace hf := pI_f c_54 hf
                              by_cases c_55 : x_18 = 15
                              · replace hf := pI_t c_55 hf
                                refine lv_tableIn (tgt := 421) (off := 326) hx hb dX5_step_95 (by rw [c_55]; decide) (by rw [c_55]; decide) (by rw [c_55]; rfl) (by decide) ?_
                                exact wkX5_step_b421 C0 _ _ _ H locs ls hf hP hD hS (lv_sub hl [5, 2] rfl)
                              · replace hf := pI_f c_55 hf
                                by_cases c_56 : x_18 = 16
                                · replace hf := pI_t c_56 hf
                                  refine lv_tableIn (tgt := 421) (off := 326) hx hb dX5_step_95 (by rw [c_56]; decide) (by rw [c_56]; decide) (by rw [c_56]; rfl) (by decide) ?_
                                  exact wkX5_step_b421 C0 _ _ _ H locs ls hf hP hD hS (lv_sub hl [5, 2] rfl)
                                · replace hf := pI_f c_56 hf
                                  have nc_23 := lv_neT (k := 1) (a := 1) c_23 (by decide)
                                  have nc_30 := lv_neT (k := 2) (a := 2) c_30 (by decide)
                                  have nc_32 := lv_neT (k := 3) (a := 3) c_32 (by decide)
                                  have nc_33 := lv_neT (k := 4) (a := 4) c_33 (by decide)
                                  have nc_34 := lv_neT (k := 5) (a := 5) c_34 (by decide)
                                  have nc_38 := lv_neT (k := 6) (a := 6) c_38 (by decide)
                                  have nc_39 := lv_neT (k := 7) (a := 7) c_39 (by decide)
                                  have nc_40 := lv_neT (k := 8) (a := 8) c_40 (by decide)
                                  have nc_46 := lv_neT (k := 9) (a := 9) c_46 (by decide)
                                  have nc_50 := lv_neT (k := 10) (a := 10) c_50 (by decide)
                                  have nc_51 := lv_neT (k := 11) (a := 11) c_51 (by decide)
                                  have nc_52 := lv_neT (k := 12) (a := 12) c_52 (by decide)
                                  have nc_53 := lv_neT (k := 13) (a := 13) c_53 (by decide)
                                  have nc_54 := lv_neT (k := 14) (a := 14) c_54 (by decide)
                                  have nc_55 := lv_neT (k := 15) (a := 15) c_55 (by decide)
                                  have nc_56 := lv_neT (k := 16) (a := 16) c_56 (by decide)
                                  refine lv_tableOut (tgt := 433) hx hb dX5_step_95 (by omega) (by decide) ?_
                                  refine lv_aload_n hx hb dX5_step_433 rfl (lv_at hl 5 rfl) ?_
                                  refine lv_iload_n hx hb dX5_step_434 rfl (lv_at hl 3 rfl) ?_
                                  refine lv_iload_n hx hb dX5_step_435 rfl (lv_at hl 2 rfl) ?_
                                  refine lv_iload hx hb dX5_step_436 (lv_at hl 1 rfl) ?_
                                  refine lv_iload_n hx hb dX5_step_438 rfl (lv_at hl 4 rfl) ?_
                                  refine lv_bipush (v := 15) hx hb dX5_step_439 (by decide) ?_
                                  refine lv_iand hx hb dX5_step_441 ?_
                                  refine lv_iload hx hb dX5_step_442 (lv_at hl 0 rfl) ?_
                                  obtain ⟨z_19, hz_19, hf⟩ := pB_out hf
                                  refine gV (w' := (wM a0 a1 a2 a3 a4 a5 a6 a7 a8 a9 a10 a11 a12 a13 cI z_19)) (va_runV (As := [.int x_8, .int x_9, .int x_10, .int (x_3 &&& 15), .int x_12]) (rest := []) ⟨hx, hb, hml, hown, hts⟩ (ctX5_stepOn l D cI a0 a1 a2 a3 a4 a5 a6 a7 a8 a9 a10 a11 a12 a13 u_17 x_8 x_9 x_10 (x_3 &&& 15) x_12 z_19 hz_19 H.size) (cwV 5 hts gX5_step_X5_stepOn rfl rfl rfl (by decide +kernel) ⟨Nat.le_of_ble_eq_true rfl, Nat.le_of_ble_eq_true rfl⟩) (gPreV (ci := 4) (C := RX5) (T := TX5) (N := 27) hP hK hD [0, 1, 2, 3, 4, 5, 6, 7, 8, 9, 10, 11, 12, 13] (by decide) rfl 0 rfl rfl) rfl rfl hl.1 rfl (lv_room (Nat.le_of_ble_eq_true rfl)) dX5_step_444 ⟨Nat.le_of_ble_eq_true rfl, Nat.le_of_ble_eq_true rfl⟩) hP hD hS hA [0, 1, 2, 3, 4, 5, 6, 7, 8, 9, 10, 11, 12, 13] [] [0, 1, 2, 3, 4, 5, 6, 7, 8, 9, 10, 11, 12, 13] rfl rfl (by decide) (by decide) rfl (by decide) (fun H locs hP hD hS => ?_)
                                  have hz := Option.some.inj hf
                                  subst hz
                                  exact gRetV hx hb hr hlocks hK hP hD hS rfl dX5_step_447
theorem ctX5_step (l : Launch) (D : va_G) (cI : ClassId) (a0 a1 a2 a3 a4 a5 a6 a7 a8 a9 a10 a11 a12 a13 : Nat) (u : TM) (z : TM) (hz : fX5_step u = some z) : CtV l yX5_step wsX5_step rmX5_step D vwCl [(cI, .int)] [.ref a0] (wM a0 a1 a2 a3 a4 a5 a6 a7 a8 a9 a10 a11 a12 a13 cI u) (wM a0 a1 a2 a3 a4 a5 a6 a7 a8 a9 a10 a11 a12 a13 cI z) :=
  ctV_of (cc := cX5_step) (maxL := 7) (ret := none) (by decide) rfl (Nat.le_of_ble_eq_true rfl) (fun p e s m below meth c A ls C hl hP hD hS => wkX5_step C z _ s.heap [] ls hz hP hD hS hl)
abbrev rmX5_interrupt : Room := { frames := 4, cells := 0, slots := 0, locals := 87 }
theorem inX5_interrupt_X5 : ∀ w ∈ wsX50, w ∈ wsX5_interrupt := by decide +kernel
set_option maxRecDepth 100000 in
set_option maxHeartbeats 4000000 in
theorem wkX5_interrupt_b20 {p : Program} {l : Launch} {e : Env} {s : State} {m : MethodId} {args : Array Value} {below : List Frame} {meth : Method} {c : Code} {D : va_G} {cI : ClassId} {A : Nat → Prop} {a0 a1 a2 a3 a4 a5 a6 a7 a8 a9 a10 a11 a12 a13 : Nat} (C : cxt p s m args meth c cX5_interrupt none 2 RX5 wsX5_interrupt D vwCl [(cI, .int)] A) : ∀ (fu : Nat) (z : TM) (u : TM) (x1 : Int32) (H : Heap) (locs : List Loc) (ls : Array Slot), fX5_interrupt_b20 fu u x1 = some z → va_P D vwCl (wM a0 a1 a2 a3 a4 a5 a6 a7 a8 a9 a10 a11 a12 a13 cI u) H → va_D A (wM a0 a1 a2 a3 a4 a5 a6 a7 a8 a9 a10 a11 a12 a13 cI u) → va_S A s.heap H locs → lv_has ls 2 [(0, .ref a0), (1, .int x1)] → W p l e rmX5_interrupt s m args below meth c H locs 0 0 (MQ below (oV D vwCl [(cI, .int)] A (wM a0 a1 a2 a3 a4 a5 a6 a7 a8 a9 a10 a11 a12 a13 cI z)) args s 0 0 A) (F0 m 20 ls []) := by
  have C0 := C
  obtain ⟨hx, hb, hr, hml, hown, hts, hlocks, hK, hA⟩ := C
  intro fu
  induction fu with
  | zero =>
    intro z u x1 H locs ls hf hP hD hS hl
    cases hf
  | succ nn ih =>
    intro z u x1 H locs ls hf hP hD hS hl
    simp only [fX5_interrupt_b20] at hf
    refine lv_iload_n hx hb dX5_interrupt_20 rfl (lv_at hl 1 rfl) ?_
    refine lv_aload_n hx hb dX5_interrupt_21 rfl (lv_at hl 0 rfl) ?_
    refine va_get (D := D) (ci := 4) (v := .int (gM_requestMany u)) (C := RX5) (T := TX5) (N := 27) hx hb hts inX5_interrupt_X5 hown hK hP 0 rfl rfl 6 (by decide) (hts (.fieldLink RX5 162 "BlockCacheModel" "requestMany" "I") (by decide +kernel)) (fun _ h9 => h9) rfl dX5_interrupt_22 ?_
    refine lv_icmp_ge (tgt := 48) hx hb dX5_interrupt_25 (by decide) (fun c_1 => ?_) (fun c_1 => ?_)
    · replace hf := pI_t c_1 hf
      refine lv_aload_n hx hb dX5_interrupt_48 rfl (lv_at hl 0 rfl) ?_
      refine lv_aload_n hx hb dX5_interrupt_49 rfl (lv_at hl 0 rfl) ?_
      refine va_get (D := D) (ci := 4) (v := .ref a2) (C := RX5) (T := TX5) (N := 27) hx hb hts inX5_interrupt_X5 hown hK hP 0 rfl rfl 2 (by decide) (hts (.fieldLink RX5 13 "BlockCacheModel" "reg" "[I") (by decide +kernel)) (fun _ h9 => h9) rfl dX5_interrupt_50 ?_
      refine lv_bipush (v := 9) hx hb dX5_interrupt_53 (by decide) ?_
      obtain ⟨h_2, hf⟩ := pIn_out hf
      refine va_iald hx hb hK hP 2 0 rfl rfl h_2 dX5_interrupt_55 ?_
      obtain ⟨z_3, hz_3, hf⟩ := pB_out hf
      refine gV (w' := (wM a0 a1 a2 a3 a4 a5 a6 a7 a8 a9 a10 a11 a12 a13 cI z_3)) (va_runV (As := [.int ((gM_reg u) ((9 : Int32)).toNatClampNeg)]) (rest := []) ⟨hx, hb, hml, hown, hts⟩ (ctX5_push l D cI a0 a1 a2 a3 a4 a5 a6 a7 a8 a9 a10 a11 a12 a13 u ((gM_reg u) ((9 : Int32)).toNatClampNeg) z_3 hz_3 H.size) (cwV 1 hts gX5_interrupt_X5_push rfl rfl rfl (by decide +kernel) ⟨Nat.le_of_ble_eq_true rfl, Nat.le_of_ble_eq_true rfl⟩) (gPreV (ci := 4) (C := RX5) (T := TX5) (N := 27) hP hK hD [0, 1, 2, 3, 4, 5, 6, 7, 8, 9, 10, 11, 12, 13] (by decide) rfl 0 rfl rfl) rfl rfl hl.1 rfl (lv_room (Nat.le_of_ble_eq_true rfl)) dX5_interrupt_56 ⟨Nat.le_of_ble_eq_true rfl, Nat.le_of_ble_eq_true rfl⟩) hP hD hS hA [0, 1, 2, 3, 4, 5, 6, 7, 8, 9, 10, 11, 12, 13] [] [0, 1, 2, 3, 4, 5, 6, 7, 8, 9, 10, 11, 12, 13] rfl rfl (by decide) (by decide) rfl (by decide) (fun H locs hP hD hS => ?_)
      refine lv_aload_n hx hb dX5_interrupt_59 rfl (lv_at hl 0 rfl) ?_
      refine va_get (D := D) (ci := 4) (v := .ref a2) (C := RX5) (T := TX5) (N := 27) hx hb hts inX5_interrupt_X5 hown hK hP 0 rfl rfl 2 (by decide) (hts (.fieldLink RX5 13 "BlockCacheModel" "reg" "[I") (by decide +kernel)) (fun _ h9 => h9) rfl dX5_interrupt_60 ?_
      refine lv_bipush (v := 9) hx hb dX5_interrupt_63 (by decide) ?_
      refine lv_sipush (v := 240) hx hb dX5_interrupt_65 (by decide) ?_
      obtain ⟨h_4, hf⟩ := pIn_out hf
      refine va_iast hx hb hK hP hD hS 2 0 rfl rfl h_4 dX5_interrupt_68 (fun H locs hP hD hS => ?_)
      obtain ⟨u_5, eu_5, hf⟩ := pLet_out hf
      replace hP : va_P D vwCl (wM a0 a1 a2 a3 a4 a5 a6 a7 a8 a9 a10 a11 a12 a13 cI u_5) H := by rw [eu_5]; exact hP
      replace hD : va_D A (wM a0 a1 a2 a3 a4 a5 a6 a7 a8 a9 a10 a11 a12 a13 cI u_5) := by rw [eu_5]; exact hD
      refine lv_aload_n hx hb dX5_interrupt_69 rfl (lv_at hl 0 rfl) ?_
      refine va_get (D := D) (ci := 4) (v := .ref a12) (C := RX5) (T := TX5) (N := 27) hx hb hts inX5_interrupt_X5 hown hK hP 0 rfl rfl 17 (by decide) (hts (.fieldLink RX5 50 "BlockCacheModel" "counts" "[I") (by decide +kernel)) (fun _ h9 => h9) rfl dX5_interrupt_70 ?_
      refine lv_bipush (v := 8) hx hb dX5_interrupt_73 (by decide) ?_
      refine lv_dup2_11 hx hb dX5_interrupt_75 rfl rfl ?_
      obtain ⟨h_6, hf⟩ := pIn_out hf
      refine va_iald hx hb hK hP 12 0 rfl rfl h_6 dX5_interrupt_76 ?_
      refine lv_iconst (v := 1) hx hb dX5_interrupt_77 (by decide) ?_
      refine lv_iadd hx hb dX5_interrupt_78 ?_
      obtain ⟨h_7, hf⟩ := pIn_out hf
      refine va_iast hx hb hK hP hD hS 12 0 rfl rfl h_7 dX5_interrupt_79 (fun H locs hP hD hS => ?_)
      obtain ⟨u_8, eu_8, hf⟩ := pLet_out hf
      replace hP : va_P D vwCl (wM a0 a1 a2 a3 a4 a5 a6 a7 a8 a9 a10 a11 a12 a13 cI u_8) H := by rw [eu_8]; exact hP
      replace hD : va_D A (wM a0 a1 a2 a3 a4 a5 a6 a7 a8 a9 a10 a11 a12 a13 cI u_8) := by rw [eu_8]; exact hD
      refine lv_aload_n hx hb dX5_interrupt_80 rfl (lv_at hl 0 rfl) ?_
      refine lv_iconst (v := (-1)) hx hb dX5_interrupt_81 (by decide) ?_
      refine va_put (D := D) (ci := 4) (v := .int (-1)) (ty := .int) (C := RX5) (T := TX5) (N := 27) hx hb hts inX5_interrupt_X5 tyX5 tyX5_ok nmX5 hown hK hP hD hS 0 rfl rfl 25 (by decide) (hts (.fieldLink RX5 56 "BlockCacheModel" "leftBy" "I") (by decide +kernel)) (fun _ h9 => h9) rfl (by decide +kernel) rfl rfl (Nat.le_of_ble_eq_true rfl) dX5_interrupt_82 (fun H locs hP hD hS => ?_)
      obtain ⟨u_9, eu_9, hf⟩ := pLet_out hf
      replace hP : va_P D vwCl (wM a0 a1 a2 a3 a4 a5 a6 a7 a8 a9 a10 a11 a12 a13 cI u_9) H := by rw [eu_9]; exact hP
      replace hD : va_D A (wM a0 a1 a2 a3 a4 a5 a6 a7 a8 a9 a10 a11 a12 a13 cI u_9) := by rw [eu_9]; exact hD
      have hz := Option.some.inj hf
      subst hz
      exact gRetV hx hb hr hlocks hK hP hD hS rfl dX5_interrupt_85
    · replace hf := pI_f c_1 hf
      refine lv_aload_n hx hb dX5_interrupt_28 rfl (lv_at hl 0 rfl) ?_
      refine va_get (D := D) (ci := 4) (v := .ref a4) (C := RX5) (T := TX5) (N := 27) hx hb hts inX5_interrupt_X5 hown hK hP 0 rfl rfl 5 (by decide) (hts (.fieldLink RX5 19 "BlockCacheModel" "requests" "[I") (by decide +kernel)) (fun _ h9 => h9) rfl dX5_interrupt_29 ?_
      refine lv_iload_n hx hb dX5_interrupt_32 rfl (lv_at hl 1 rfl) ?_
      refine lv_aload_n hx hb dX5_interrupt_33 rfl (lv_at hl 0 rfl) ?_
      refine va_get (D := D) (ci := 4) (v := .ref a4) (C := RX5) (T := TX5) (N := 27) hx hb hts inX5_interrupt_X5 hown hK hP 0 rfl rfl 5 (by decide) (hts (.fieldLink RX5 19 "BlockCacheModel" "requests" "[I") (by decide +kernel)) (fun _ h9 => h9) rfl dX5_interrupt_34 ?_
      refine lv_iload_n hx hb dX5_interrupt_37 rfl (lv_at hl 1 rfl) ?_
      refine lv_iconst (v := 1) hx hb dX5_interrupt_38 (by decide) ?_
      refine lv_iadd hx hb dX5_interrupt_39 ?_
      obtain ⟨h_10, hf⟩ := pIn_out hf
      refine va_iald hx hb hK hP 4 0 rfl rfl h_10 dX5_interrupt_40 ?_
      obtain ⟨h_11, hf⟩ := pIn_out hf
      refine va_iast hx hb hK hP hD hS 4 0 rfl rfl h_11 dX5_interrupt_41 (fun H locs hP hD hS => ?_)
      obtain ⟨u_12, eu_12, hf⟩ := pLet_out hf
      replace hP : va_P D vwCl (wM a0 a1 a2 a3 a4 a5 a6 a7 a8 a9 a10 a11 a12 a13 cI u_12) H := by rw [eu_12]; exact hP
      replace hD : va_D A (wM a0 a1 a2 a3 a4 a5 a6 a7 a8 a9 a10 a11 a12 a13 cI u_12) := by rw [eu_12]; exact hD
      obtain ⟨x_13, ex_13, hf⟩ := pLet_out hf
      refine lv_iinc (v := x_13) (lv' := [(1, .int x_13), (0, .ref a0)]) hx hb dX5_interrupt_42 hl (k := 1) rfl (by rw [ex_13]; rfl) (by decide) rfl (fun ls hl => ?_)
      refine lv_goto (tgt := 20) hx hb dX5_interrupt_45 (by decide) ?_
      exact ih _ _ _ H locs ls hf hP hD hS (lv_sub hl [1, 0] rfl)
set_option maxRecDepth 100000 in
set_option maxHeartbeats 4000000 in
theorem wkX5_interrupt {p : Program} {l : Launch} {e : Env} {s : State} {m : MethodId} {args : Array Value} {below : List Frame} {meth : Method} {c : Code} {D : va_G} {cI : ClassId} {A : Nat → Prop} {a0 a1 a2 a3 a4 a5 a6 a7 a8 a9 a10 a11 a12 a13 : Nat} (C : cxt p s m args meth c cX5_interrupt none 2 RX5 wsX5_interrupt D vwCl [(cI, .int)] A) : ∀ (z : TM) (u : TM) (H : Heap) (locs : List Loc) (ls : Array Slot), fX5_interrupt u = some z → va_P D vwCl (wM a0 a1 a2 a3 a4 a5 a6 a7 a8 a9 a10 a11 a12 a13 cI u) H → va_D A (wM a0 a1 a2 a3 a4 a5 a6 a7 a8 a9 a10 a11 a12 a13 cI u) → va_S A s.heap H locs → lv_has ls 2 [(0, .ref a0)] → W p l e rmX5_interrupt s m args below meth c H locs 0 0 (MQ below (oV D vwCl [(cI, .int)] A (wM a0 a1 a2 a3 a4 a5 a6 a7 a8 a9 a10 a11 a12 a13 cI z)) args s 0 0 A) (F0 m 0 ls []) := by
  have C0 := C
  obtain ⟨hx, hb, hr, hml, hown, hts, hlocks, hK, hA⟩ := C
  intro z u H locs ls hf hP hD hS hl
  unfold fX5_interrupt at hf
  refine lv_aload_n hx hb dX5_interrupt_0 rfl (lv_at hl 0 rfl) ?_
  refine va_get (D := D) (ci := 4) (v := .ref a2) (C := RX5) (T := TX5) (N := 27) hx hb hts inX5_interrupt_X5 hown hK hP 0 rfl rfl 2 (by decide) (hts (.fieldLink RX5 13 "BlockCacheModel" "reg" "[I") (by decide +kernel)) (fun _ h9 => h9) rfl dX5_interrupt_1 ?_
  refine lv_bipush (v := 8) hx hb dX5_interrupt_4 (by decide) ?_
  refine lv_iconst (v := 0) hx hb dX5_interrupt_6 (by decide) ?_
  obtain ⟨h_1, hf⟩ := pIn_out hf
  refine va_iast hx hb hK hP hD hS 2 0 rfl rfl h_1 dX5_interrupt_7 (fun H locs hP hD hS => ?_)
  obtain ⟨u_2, eu_2, hf⟩ := pLet_out hf
  replace hP : va_P D vwCl (wM a0 a1 a2 a3 a4 a5 a6 a7 a8 a9 a10 a11 a12 a13 cI u_2) H := by rw [eu_2]; exact hP
  replace hD : va_D A (wM a0 a1 a2 a3 a4 a5 a6 a7 a8 a9 a10 a11 a12 a13 cI u_2) := by rw [eu_2]; exact hD
  refine lv_aload_n hx hb dX5_interrupt_8 rfl (lv_at hl 0 rfl) ?_
  refine lv_dup hx hb dX5_interrupt_9 rfl ?_
  refine va_get (D := D) (ci := 4) (v := .int (gM_requestMany u_2)) (C := RX5) (T := TX5) (N := 27) hx hb hts inX5_interrupt_X5 hown hK hP 0 rfl rfl 6 (by decide) (hts (.fieldLink RX5 162 "BlockCacheModel" "requestMany" "I") (by decide +kernel)) (fun _ h9 => h9) rfl dX5_interrupt_10 ?_
  refine lv_iconst (v := 1) hx hb dX5_interrupt_13 (by decide) ?_
  refine lv_isub hx hb dX5_interrupt_14 ?_
  refine va_put (D := D) (ci := 4) (v := .int ((gM_requestMany u_2) - 1)) (ty := .int) (C := RX5) (T := TX5) (N := 27) hx hb hts inX5_interrupt_X5 tyX5 tyX5_ok nmX5 hown hK hP hD hS 0 rfl rfl 6 (by decide) (hts (.fieldLink RX5 162 "BlockCacheModel" "requestMany" "I") (by decide +kernel)) (fun _ h9 => h9) rfl (by decide +kernel) rfl rfl (Nat.le_of_ble_eq_true rfl) dX5_interrupt_15 (fun H locs hP hD hS => ?_)
  obtain ⟨u_3, eu_3, hf⟩ := pLet_out hf
  replace hP : va_P D vwCl (wM a0 a1 a2 a3 a4 a5 a6 a7 a8 a9 a10 a11 a12 a13 cI u_3) H := by rw [eu_3]; exact hP
  replace hD : va_D A (wM a0 a1 a2 a3 a4 a5 a6 a7 a8 a9 a10 a11 a12 a13 cI u_3) := by rw [eu_3]; exact hD
  refine lv_iconst (v := 0) hx hb dX5_interrupt_18 (by decide) ?_
  refine lv_istore_n (lv' := [(1, .int 0), (0, .ref a0)]) hx hb dX5_interrupt_19 rfl hl (by decide) rfl (fun ls hl => ?_)
  exact wkX5_interrupt_b20 C0 fuelX5_interrupt_20 _ _ _ H locs ls hf hP hD hS (lv_sub hl [1, 0] rfl)
theorem ctX5_interrupt (l : Launch) (D : va_G) (cI : ClassId) (a0 a1 a2 a3 a4 a5 a6 a7 a8 a9 a10 a11 a12 a13 : Nat) (u : TM) (z : TM) (hz : fX5_interrupt u = some z) : CtV l yX5_interrupt wsX5_interrupt rmX5_interrupt D vwCl [(cI, .int)] [.ref a0] (wM a0 a1 a2 a3 a4 a5 a6 a7 a8 a9 a10 a11 a12 a13 cI u) (wM a0 a1 a2 a3 a4 a5 a6 a7 a8 a9 a10 a11 a12 a13 cI z) :=
  ctV_of (cc := cX5_interrupt) (maxL := 2) (ret := none) (by decide) rfl (Nat.le_of_ble_eq_true rfl) (fun p e s m below meth c A ls C hl hP hD hS => wkX5_interrupt C z _ s.heap [] ls hz hP hD hS hl)

abbrev rmX5_run : Room := { frames := 8, cells := 0, slots := 0, locals := 189 }
theorem inX5_run_X5 : ∀ w ∈ wsX50, w ∈ wsX5_run := by decide +kernel
set_option maxRecDepth 100000 in
set_option maxHeartbeats 4000000 in
theorem wkX5_run_b86 {p : Program} {l : Launch} {e : Env} {s : State} {m : MethodId} {args : Array Value} {below : List Frame} {meth : Method} {c : Code} {D : va_G} {cI : ClassId} {A : Nat → Prop} {a0 a1 a2 a3 a4 a5 a6 a7 a8 a9 a10 a11 a12 a13 : Nat} (C : cxt p s m args meth c cX5_run (some .int) 4 RX5 wsX5_run D vwCl [(cI, .int)] A) : ∀ (z : Int32 × TM) (u : TM) (x2 : Int32) (H : Heap) (locs : List Loc) (ls : Array Slot), fX5_run_b86 u x2 = some z → va_P D vwCl (wM a0 a1 a2 a3 a4 a5 a6 a7 a8 a9 a10 a11 a12 a13 cI u) H → va_D A (wM a0 a1 a2 a3 a4 a5 a6 a7 a8 a9 a10 a11 a12 a13 cI u) → va_S A s.heap H locs → lv_has ls 4 [(0, .ref a0), (2, .int x2)] → W p l e rmX5_run s m args below meth c H locs 0 0 (MQ below (oI D vwCl [(cI, .int)] A z.1 (wM a0 a1 a2 a3 a4 a5 a6 a7 a8 a9 a10 a11 a12 a13 cI z.2)) args s 0 0 A) (F0 m 86 ls []) := by
  have C0 := C
  obtain ⟨hx, hb, hr, hml, hown, hts, hlocks, hK, hA⟩ := C
  intro z u x2 H locs ls hf hP hD hS hl
  unfold fX5_run_b86 at hf
  refine lv_aload_n hx hb dX5_run_86 rfl (lv_at hl 0 rfl) ?_
  refine lv_iconst (v := (-1)) hx hb dX5_run_87 (by decide) ?_
  refine va_put (D := D) (ci := 4) (v := .int (-1)) (ty := .int) (C := RX5) (T := TX5) (N := 27) hx hb hts inX5_run_X5 tyX5 tyX5_ok nmX5 hown hK hP hD hS 0 rfl rfl 25 (by decide) (hts (.fieldLink RX5 56 "BlockCacheModel" "leftBy" "I") (by decide +kernel)) (fun _ h9 => h9) rfl (by decide +kernel) rfl rfl (Nat.le_of_ble_eq_true rfl) dX5_run_88 (fun H locs hP hD hS => ?_)
  obtain ⟨u_1, eu_1, hf⟩ := pLet_out hf
  replace hP : va_P D vwCl (wM a0 a1 a2 a3 a4 a5 a6 a7 a8 a9 a10 a11 a12 a13 cI u_1) H := by rw [eu_1]; exact hP
  replace hD : va_D A (wM a0 a1 a2 a3 a4 a5 a6 a7 a8 a9 a10 a11 a12 a13 cI u_1) := by rw [eu_1]; exact hD
  refine lv_aload_n hx hb dX5_run_91 rfl (lv_at hl 0 rfl) ?_
  refine va_get (D := D) (ci := 4) (v := .ref a12) (C := RX5) (T := TX5) (N := 27) hx hb hts inX5_run_X5 hown hK hP 0 rfl rfl 17 (by decide) (hts (.fieldLink RX5 50 "BlockCacheModel" "counts" "[I") (by decide +kernel)) (fun _ h9 => h9) rfl dX5_run_92 ?_
  refine lv_iconst (v := 0) hx hb dX5_run_95 (by decide) ?_
  obtain ⟨h_2, hf⟩ := pIn_out hf
  refine va_iald hx hb hK hP 12 0 rfl rfl h_2 dX5_run_96 ?_
  refine lv_iload_n hx hb dX5_run_97 rfl (lv_at hl 1 rfl) ?_
  refine lv_isub hx hb dX5_run_98 ?_
  have hz := Option.some.inj hf
  subst hz
  exact gRetI hx hb hr hlocks hK hP hD hS rfl rfl dX5_run_99
set_option maxRecDepth 100000 in
set_option maxHeartbeats 4000000 in
theorem wkX5_run_b52 {p : Program} {l : Launch} {e : Env} {s : State} {m : MethodId} {args : Array Value} {below : List Frame} {meth : Method} {c : Code} {D : va_G} {cI : ClassId} {A : Nat → Prop} {a0 a1 a2 a3 a4 a5 a6 a7 a8 a9 a10 a11 a12 a13 : Nat} (C : cxt p s m args meth c cX5_run (some .int) 4 RX5 wsX5_run D vwCl [(cI, .int)] A) : ∀ (fu : Nat) (z : Int32 × TM) (u : TM) (x1 : Int32) (x2 : Int32) (x3 : Int32) (H : Heap) (locs : List Loc) (ls : Array Slot), fX5_run_b52 fu u x1 x2 x3 = some z → va_P D vwCl (wM a0 a1 a2 a3 a4 a5 a6 a7 a8 a9 a10 a11 a12 a13 cI u) H → va_D A (wM a0 a1 a2 a3 a4 a5 a6 a7 a8 a9 a10 a11 a12 a13 cI u) → va_S A s.heap H locs → lv_has ls 4 [(0, .ref a0), (1, .int x1), (2, .int x2), (3, .int x3)] → W p l e rmX5_run s m args below meth c H locs 0 0 (MQ below (oI D vwCl [(cI, .int)] A z.1 (wM a0 a1 a2 a3 a4 a5 a6 a7 a8 a9 a10 a11 a12 a13 cI z.2)) args s 0 0 A) (F0 m 52 ls []) := by
  have C0 := C
  obtain ⟨hx, hb, hr, hml, hown, hts, hlocks, hK, hA⟩ := C
  intro fu
  induction fu with
  | zero =>
    intro z u x1 x2 x3 H locs ls hf hP hD hS hl
    cases hf
  | succ nn ih =>
    intro z u x1 x2 x3 H locs ls hf hP hD hS hl
    simp only [fX5_run_b52] at hf
    refine lv_iload_n hx hb dX5_run_52 rfl (lv_at hl 3 rfl) ?_
    refine lv_if_eq (tgt := 86) hx hb dX5_run_53 (by decide) (fun c_1 => ?_) (fun c_1 => ?_)
    · replace hf := pI_t c_1 hf
      exact wkX5_run_b86 C0 _ _ _ H locs ls hf hP hD hS (lv_sub hl [0, 2] rfl)
    · replace hf := pI_f c_1 hf
      refine lv_aload_n hx hb dX5_run_56 rfl (lv_at hl 0 rfl) ?_
      refine va_get (D := D) (ci := 4) (v := .ref a12) (C := RX5) (T := TX5) (N := 27) hx hb hts inX5_run_X5 hown hK hP 0 rfl rfl 17 (by decide) (hts (.fieldLink RX5 50 "BlockCacheModel" "counts" "[I") (by decide +kernel)) (fun _ h9 => h9) rfl dX5_run_57 ?_
      refine lv_iconst (v := 0) hx hb dX5_run_60 (by decide) ?_
      obtain ⟨h_2, hf⟩ := pIn_out hf
      refine va_iald hx hb hK hP 12 0 rfl rfl h_2 dX5_run_61 ?_
      refine lv_iload_n hx hb dX5_run_62 rfl (lv_at hl 2 rfl) ?_
      refine lv_iload_n hx hb dX5_run_63 rfl (lv_at hl 1 rfl) ?_
      refine lv_iadd hx hb dX5_run_64 ?_
      refine lv_icmp_ge (tgt := 86) hx hb dX5_run_65 (by decide) (fun c_3 => ?_) (fun c_3 => ?_)
      · replace hf := pI_t c_3 hf
        exact wkX5_run_b86 C0 _ _ _ H locs ls hf hP hD hS (lv_sub hl [0, 2] rfl)
      · replace hf := pI_f c_3 hf
        refine lv_aload_n hx hb dX5_run_68 rfl (lv_at hl 0 rfl) ?_
        refine lv_iload_n hx hb dX5_run_69 rfl (lv_at hl 2 rfl) ?_
        refine lv_iload_n hx hb dX5_run_70 rfl (lv_at hl 1 rfl) ?_
        refine lv_iadd hx hb dX5_run_71 ?_
        refine lv_aload_n hx hb dX5_run_72 rfl (lv_at hl 0 rfl) ?_
        refine va_get (D := D) (ci := 4) (v := .ref a12) (C := RX5) (T := TX5) (N := 27) hx hb hts inX5_run_X5 hown hK hP 0 rfl rfl 17 (by decide) (hts (.fieldLink RX5 50 "BlockCacheModel" "counts" "[I") (by decide +kernel)) (fun _ h9 => h9) rfl dX5_run_73 ?_
        refine lv_iconst (v := 0) hx hb dX5_run_76 (by decide) ?_
        obtain ⟨h_4, hf⟩ := pIn_out hf
        refine va_iald hx hb hK hP 12 0 rfl rfl h_4 dX5_run_77 ?_
        refine lv_isub hx hb dX5_run_78 ?_
        obtain ⟨z_5, hz_5, hf⟩ := pB_out hf
        refine gI (w' := (wM a0 a1 a2 a3 a4 a5 a6 a7 a8 a9 a10 a11 a12 a13 cI z_5.2)) (va_runV (As := [.int ((x2 + x1) - ((gM_counts u) ((0 : Int32)).toNatClampNeg))]) (rest := []) ⟨hx, hb, hml, hown, hts⟩ (ctX5_goOn l D cI a0 a1 a2 a3 a4 a5 a6 a7 a8 a9 a10 a11 a12 a13 u ((x2 + x1) - ((gM_counts u) ((0 : Int32)).toNatClampNeg)) z_5 hz_5 H.size) (cwV 1 hts gX5_run_X5_goOn rfl rfl rfl (by decide +kernel) ⟨Nat.le_of_ble_eq_true rfl, Nat.le_of_ble_eq_true rfl⟩) (gPreV (ci := 4) (C := RX5) (T := TX5) (N := 27) hP hK hD [0, 1, 2, 3, 4, 5, 6, 7, 8, 9, 10, 11, 12, 13] (by decide) rfl 0 rfl rfl) rfl rfl hl.1 rfl (lv_room (Nat.le_of_ble_eq_true rfl)) dX5_run_79 ⟨Nat.le_of_ble_eq_true rfl, Nat.le_of_ble_eq_true rfl⟩) hP hD hS hA [0, 1, 2, 3, 4, 5, 6, 7, 8, 9, 10, 11, 12, 13] [] [0, 1, 2, 3, 4, 5, 6, 7, 8, 9, 10, 11, 12, 13] rfl rfl (by decide) (by decide) rfl (by decide) (fun H locs hP hD hS => ?_)
        refine lv_istore_n (lv' := [(3, .int z_5.1), (0, .ref a0), (1, .int x1), (2, .int x2)]) hx hb dX5_run_82 rfl hl (by decide) rfl (fun ls hl => ?_)
        refine lv_goto (tgt := 52) hx hb dX5_run_83 (by decide) ?_
        exact ih _ _ _ _ _ H locs ls hf hP hD hS (lv_sub hl [1, 2, 3, 0] rfl)
set_option maxRecDepth 100000 in
set_option maxHeartbeats 4000000 in
theorem wkX5_run_b17 {p : Program} {l : Launch} {e : Env} {s : State} {m : MethodId} {args : Array Value} {below : List Frame} {meth : Method} {c : Code} {D : va_G} {cI : ClassId} {A : Nat → Prop} {a0 a1 a2 a3 a4 a5 a6 a7 a8 a9 a10 a11 a12 a13 : Nat} (C : cxt p s m args meth c cX5_run (some .int) 4 RX5 wsX5_run D vwCl [(cI, .int)] A) : ∀ (z : Int32 × TM) (u : TM) (x1 : Int32) (y0 : Int32) (H : Heap) (locs : List Loc) (ls : Array Slot), fX5_run_b17 u x1 y0 = some z → va_P D vwCl (wM a0 a1 a2 a3 a4 a5 a6 a7 a8 a9 a10 a11 a12 a13 cI u) H → va_D A (wM a0 a1 a2 a3 a4 a5 a6 a7 a8 a9 a10 a11 a12 a13 cI u) → va_S A s.heap H locs → lv_has ls 4 [(0, .ref a0), (1, .int x1)] → W p l e rmX5_run s m args below meth c H locs 0 0 (MQ below (oI D vwCl [(cI, .int)] A z.1 (wM a0 a1 a2 a3 a4 a5 a6 a7 a8 a9 a10 a11 a12 a13 cI z.2)) args s 0 0 A) (F0 m 17 ls [.int y0, .ref a0]) := by
  have C0 := C
  obtain ⟨hx, hb, hr, hml, hown, hts, hlocks, hK, hA⟩ := C
  intro z u x1 y0 H locs ls hf hP hD hS hl
  unfold fX5_run_b17 at hf
  obtain ⟨z_1, hz_1, hf⟩ := pLet_out hf
  refine gI (w' := (wM a0 a1 a2 a3 a4 a5 a6 a7 a8 a9 a10 a11 a12 a13 cI z_1.2)) (va_runV (As := [.int y0]) (rest := []) ⟨hx, hb, hml, hown, hts⟩ (ctX5_refused l D cI a0 a1 a2 a3 a4 a5 a6 a7 a8 a9 a10 a11 a12 a13 u y0 z_1 hz_1.symm H.size) (cwV 1 hts gX5_run_X5_refused rfl rfl rfl (by decide +kernel) ⟨Nat.le_of_ble_eq_true rfl, Nat.le_of_ble_eq_true rfl⟩) (gPreV (ci := 4) (C := RX5) (T := TX5) (N := 27) hP hK hD [0, 1, 2, 3, 4, 5, 6, 7, 8, 9, 10, 11, 12, 13] (by decide) rfl 0 rfl rfl) rfl rfl hl.1 rfl (lv_room (Nat.le_of_ble_eq_true rfl)) dX5_run_17 ⟨Nat.le_of_ble_eq_true rfl, Nat.le_of_ble_eq_true rfl⟩) hP hD hS hA [0, 1, 2, 3, 4, 5, 6, 7, 8, 9, 10, 11, 12, 13] [] [0, 1, 2, 3, 4, 5, 6, 7, 8, 9, 10, 11, 12, 13] rfl rfl (by decide) (by decide) rfl (by decide) (fun H locs hP hD hS => ?_)
  refine lv_if_eq (tgt := 25) hx hb dX5_run_20 (by decide) (fun c_2 => ?_) (fun c_2 => ?_)
  · replace hf := pI_t c_2 hf
    refine lv_aload_n hx hb dX5_run_25 rfl (lv_at hl 0 rfl) ?_
    refine va_get (D := D) (ci := 4) (v := .ref a12) (C := RX5) (T := TX5) (N := 27) hx hb hts inX5_run_X5 hown hK hP 0 rfl rfl 17 (by decide) (hts (.fieldLink RX5 50 "BlockCacheModel" "counts" "[I") (by decide +kernel)) (fun _ h9 => h9) rfl dX5_run_26 ?_
    refine lv_iconst (v := 0) hx hb dX5_run_29 (by decide) ?_
    obtain ⟨h_3, hf⟩ := pIn_out hf
    refine va_iald hx hb hK hP 12 0 rfl rfl h_3 dX5_run_30 ?_
    obtain ⟨x_4, ex_4, hf⟩ := pLet_out hf
    refine gTop ex_4 ?_
    refine lv_istore_n (lv' := [(2, .int x_4), (0, .ref a0), (1, .int x1)]) hx hb dX5_run_31 rfl hl (by decide) rfl (fun ls hl => ?_)
    refine lv_aload_n hx hb dX5_run_32 rfl (lv_at hl 1 rfl) ?_
    refine va_get (D := D) (ci := 4) (v := .ref a12) (C := RX5) (T := TX5) (N := 27) hx hb hts inX5_run_X5 hown hK hP 0 rfl rfl 17 (by decide) (hts (.fieldLink RX5 50 "BlockCacheModel" "counts" "[I") (by decide +kernel)) (fun _ h9 => h9) rfl dX5_run_33 ?_
    refine lv_bipush (v := 11) hx hb dX5_run_36 (by decide) ?_
    refine lv_iconst (v := 0) hx hb dX5_run_38 (by decide) ?_
    obtain ⟨h_5, hf⟩ := pIn_out hf
    refine va_iast hx hb hK hP hD hS 12 0 rfl rfl h_5 dX5_run_39 (fun H locs hP hD hS => ?_)
    obtain ⟨u_6, eu_6, hf⟩ := pLet_out hf
    replace hP : va_P D vwCl (wM a0 a1 a2 a3 a4 a5 a6 a7 a8 a9 a10 a11 a12 a13 cI u_6) H := by rw [eu_6]; exact hP
    replace hD : va_D A (wM a0 a1 a2 a3 a4 a5 a6 a7 a8 a9 a10 a11 a12 a13 cI u_6) := by rw [eu_6]; exact hD
    refine lv_aload_n hx hb dX5_run_40 rfl (lv_at hl 1 rfl) ?_
    refine lv_iconst (v := (-1)) hx hb dX5_run_41 (by decide) ?_
    refine va_put (D := D) (ci := 4) (v := .int (-1)) (ty := .int) (C := RX5) (T := TX5) (N := 27) hx hb hts inX5_run_X5 tyX5 tyX5_ok nmX5 hown hK hP hD hS 0 rfl rfl 25 (by decide) (hts (.fieldLink RX5 56 "BlockCacheModel" "leftBy" "I") (by decide +kernel)) (fun _ h9 => h9) rfl (by decide +kernel) rfl rfl (Nat.le_of_ble_eq_true rfl) dX5_run_42 (fun H locs hP hD hS => ?_)
    obtain ⟨u_7, eu_7, hf⟩ := pLet_out hf
    replace hP : va_P D vwCl (wM a0 a1 a2 a3 a4 a5 a6 a7 a8 a9 a10 a11 a12 a13 cI u_7) H := by rw [eu_7]; exact hP
    replace hD : va_D A (wM a0 a1 a2 a3 a4 a5 a6 a7 a8 a9 a10 a11 a12 a13 cI u_7) := by rw [eu_7]; exact hD
    refine lv_aload_n hx hb dX5_run_45 rfl (lv_at hl 1 rfl) ?_
    refine lv_iconst (v := 0) hx hb dX5_run_46 (by decide) ?_
    refine va_put (D := D) (ci := 4) (v := .int 0) (ty := .boolean) (C := RX5) (T := TX5) (N := 27) hx hb hts inX5_run_X5 tyX5 tyX5_ok nmX5 hown hK hP hD hS 0 rfl rfl 26 (by decide) (hts (.fieldLink RX5 127 "BlockCacheModel" "isOver" "Z") (by decide +kernel)) (fun _ h9 => h9) rfl (by decide +kernel) (by decide) (by decide) (Nat.le_of_ble_eq_true rfl) dX5_run_47 (fun H locs hP hD hS => ?_)
    obtain ⟨u_8, eu_8, hf⟩ := pLet_out hf
    replace hP : va_P D vwCl (wM a0 a1 a2 a3 a4 a5 a6 a7 a8 a9 a10 a11 a12 a13 cI u_8) H := by rw [eu_8]; exact hP
    replace hD : va_D A (wM a0 a1 a2 a3 a4 a5 a6 a7 a8 a9 a10 a11 a12 a13 cI u_8) := by rw [eu_8]; exact hD
    refine lv_iconst (v := 1) hx hb dX5_run_50 (by decide) ?_
    refine lv_istore_n (lv' := [(3, .int 1), (2, .int x_4), (0, .ref a0), (1, .int x1)]) hx hb dX5_run_51 rfl hl (by decide) rfl (fun ls hl => ?_)
    exact wkX5_run_b52 C0 fuelX5_run_52 _ _ _ _ _ H locs ls hf hP hD hS (lv_sub hl [2, 3, 1, 0] rfl)
  · replace hf := pI_f c_2 hf
    refine lv_iconst (v := 0) hx hb dX5_run_23 (by decide) ?_
    have hz := Option.some.inj hf
    subst hz
    exact gRetI hx hb hr hlocks hK hP hD hS rfl rfl dX5_run_24
set_option maxRecDepth 100000 in
set_option maxHeartbeats 4000000 in
theorem wkX5_run {p : Program} {l : Launch} {e : Env} {s : State} {m : MethodId} {args : Array Value} {below : List Frame} {meth : Method} {c : Code} {D : va_G} {cI : ClassId} {A : Nat → Prop} {a0 a1 a2 a3 a4 a5 a6 a7 a8 a9 a10 a11 a12 a13 : Nat} (C : cxt p s m args meth c cX5_run (some .int) 4 RX5 wsX5_run D vwCl [(cI, .int)] A) : ∀ (z : Int32 × TM) (u : TM) (x1 : Int32) (H : Heap) (locs : List Loc) (ls : Array Slot), fX5_run u x1 = some z → va_P D vwCl (wM a0 a1 a2 a3 a4 a5 a6 a7 a8 a9 a10 a11 a12 a13 cI u) H → va_D A (wM a0 a1 a2 a3 a4 a5 a6 a7 a8 a9 a10 a11 a12 a13 cI u) → va_S A s.heap H locs → lv_has ls 4 [(0, .ref a0), (1, .int x1)] → W p l e rmX5_run s m args below meth c H locs 0 0 (MQ below (oI D vwCl [(cI, .int)] A z.1 (wM a0 a1 a2 a3 a4 a5 a6 a7 a8 a9 a10 a11 a12 a13 cI z.2)) args s 0 0 A) (F0 m 0 ls []) := by
  have C0 := C
  obtain ⟨hx, hb, hr, hml, hown, hts, hlocks, hK, hA⟩ := C
  intro z u x1 H locs ls hf hP hD hS hl
  unfold fX5_run at hf
  refine lv_aload_n hx hb dX5_run_0 rfl (lv_at hl 0 rfl) ?_
  refine lv_iload_n hx hb dX5_run_1 rfl (lv_at hl 1 rfl) ?_
  refine lv_iconst (v := 1) hx hb dX5_run_2 (by decide) ?_
  refine lv_sipush (v := 5000) hx hb dX5_run_3 (by decide) ?_
  obtain ⟨z_1, hz_1, hf⟩ := pLet_out hf
  refine gI0 (va_runS (As := [.int x1, .int 1, .int 5000]) (rest := [.ref a0]) ⟨hx, hb, hml, hown, hts⟩ (ctX5_isIn l D cI x1 1 5000 z_1 hz_1.symm H.size) (va_cwS 3 hts gX5_run_X5_isIn rfl rfl rfl (by decide +kernel) ⟨Nat.le_of_ble_eq_true rfl, Nat.le_of_ble_eq_true rfl⟩) (gPreS hP hK hD [] (by decide) rfl) rfl rfl hl.1 rfl (lv_room (Nat.le_of_ble_eq_true rfl)) dX5_run_6 ⟨Nat.le_of_ble_eq_true rfl, Nat.le_of_ble_eq_true rfl⟩) hP hD hS hA (fun H locs hP hS => ?_)
  refine lv_if_eq (tgt := 16) hx hb dX5_run_9 (by decide) (fun c_2 => ?_) (fun c_2 => ?_)
  · replace hf := pI_t c_2 hf
    refine lv_iconst (v := 1) hx hb dX5_run_16 (by decide) ?_
    exact wkX5_run_b17 C0 _ _ _ _ H locs ls hf hP hD hS (lv_sub hl [0, 1] rfl)
  · replace hf := pI_f c_2 hf
    refine lv_iconst (v := 0) hx hb dX5_run_12 (by decide) ?_
    refine lv_goto (tgt := 17) hx hb dX5_run_13 (by decide) ?_
    exact wkX5_run_b17 C0 _ _ _ _ H locs ls hf hP hD hS (lv_sub hl [0, 1] rfl)
theorem ctX5_run (l : Launch) (D : va_G) (cI : ClassId) (a0 a1 a2 a3 a4 a5 a6 a7 a8 a9 a10 a11 a12 a13 : Nat) (u : TM) (x1 : Int32) (z : Int32 × TM) (hz : fX5_run u x1 = some z) : CtI l yX5_run wsX5_run rmX5_run D vwCl [(cI, .int)] [.ref a0, .int x1] (wM a0 a1 a2 a3 a4 a5 a6 a7 a8 a9 a10 a11 a12 a13 cI u) z.1 (wM a0 a1 a2 a3 a4 a5 a6 a7 a8 a9 a10 a11 a12 a13 cI z.2) :=
  ctI_of (cc := cX5_run) (maxL := 4) (ret := (some .int)) (by decide) rfl (Nat.le_of_ble_eq_true rfl) (fun p e s m below meth c A ls C hl hP hD hS => wkX5_run C z _ _ s.heap [] ls hz hP hD hS hl)
abbrev rmX5_poke : Room := { frames := 2, cells := 0, slots := 0, locals := 44 }
theorem inX5_poke_X5 : ∀ w ∈ wsX50, w ∈ wsX5_poke := by decide +kernel
set_option maxRecDepth 100000 in
set_option maxHeartbeats 4000000 in
theorem wkX5_poke_b36 {p : Program} {l : Launch} {e : Env} {s : State} {m : MethodId} {args : Array Value} {below : List Frame} {meth : Method} {c : Code} {D : va_G} {cI : ClassId} {A : Nat → Prop} {a0 a1 a2 a3 a4 a5 a6 a7 a8 a9 a10 a11 a12 a13 : Nat} (C : cxt p s m args meth c cX5_poke none 7 RX5 wsX5_poke D vwCl [(cI, .int)] A) : ∀ (fu : Nat) (z : TM) (u : TM) (x1 : Int32) (x2 : Int32) (x3 : Int32) (x4 : Int32) (H : Heap) (locs : List Loc) (ls : Array Slot), fX5_poke_b36 fu u x1 x2 x3 x4 = some z → va_P D vwCl (wM a0 a1 a2 a3 a4 a5 a6 a7 a8 a9 a10 a11 a12 a13 cI u) H → va_D A (wM a0 a1 a2 a3 a4 a5 a6 a7 a8 a9 a10 a11 a12 a13 cI u) → va_S A s.heap H locs → lv_has ls 7 [(0, .ref a0), (1, .int x1), (2, .int x2), (3, .int x3), (4, .int x4)] → W p l e rmX5_poke s m args below meth c H locs 0 0 (MQ below (oV D vwCl [(cI, .int)] A (wM a0 a1 a2 a3 a4 a5 a6 a7 a8 a9 a10 a11 a12 a13 cI z)) args s 0 0 A) (F0 m 36 ls []) := by
  have C0 := C
  obtain ⟨hx, hb, hr, hml, hown, hts, hlocks, hK, hA⟩ := C
  intro fu
  induction fu with
  | zero =>
    intro z u x1 x2 x3 x4 H locs ls hf hP hD hS hl
    cases hf
  | succ nn ih =>
    intro z u x1 x2 x3 x4 H locs ls hf hP hD hS hl
    simp only [fX5_poke_b36] at hf
    refine lv_iload hx hb dX5_poke_36 (lv_at hl 4 rfl) ?_
    refine lv_iload_n hx hb dX5_poke_38 rfl (lv_at hl 3 rfl) ?_
    refine lv_icmp_ge (tgt := 87) hx hb dX5_poke_39 (by decide) (fun c_1 => ?_) (fun c_1 => ?_)
    · replace hf := pI_t c_1 hf
      have hz := Option.some.inj hf
      subst hz
      exact gRetV hx hb hr hlocks hK hP hD hS rfl dX5_poke_87
    · replace hf := pI_f c_1 hf
      refine lv_iload_n hx hb dX5_poke_42 rfl (lv_at hl 1 rfl) ?_
      refine lv_iload hx hb dX5_poke_43 (lv_at hl 4 rfl) ?_
      refine lv_iadd hx hb dX5_poke_45 ?_
      refine lv_sipush (v := 255) hx hb dX5_poke_46 (by decide) ?_
      refine lv_iand hx hb dX5_poke_49 ?_
      obtain ⟨x_2, ex_2, hf⟩ := pLet_out hf
      refine gTop ex_2 ?_
      refine lv_istore (lv' := [(5, .int x_2), (0, .ref a0), (1, .int x1), (2, .int x2), (3, .int x3), (4, .int x4)]) hx hb dX5_poke_50 hl (by decide) rfl (fun ls hl => ?_)
      refine lv_aload_n hx hb dX5_poke_52 rfl (lv_at hl 1 rfl) ?_
      refine va_get (D := D) (ci := 4) (v := .ref a1) (C := RX5) (T := TX5) (N := 27) hx hb hts inX5_poke_X5 hown hK hP 0 rfl rfl 1 (by decide) (hts (.fieldLink RX5 7 "BlockCacheModel" "memory" "[I") (by decide +kernel)) (fun _ h9 => h9) rfl dX5_poke_53 ?_
      refine lv_iload hx hb dX5_poke_56 (lv_at hl 0 rfl) ?_
      refine lv_iload_n hx hb dX5_poke_58 rfl (lv_at hl 3 rfl) ?_
      refine lv_bipush (v := 24) hx hb dX5_poke_59 (by decide) ?_
      refine lv_bipush (v := 8) hx hb dX5_poke_61 (by decide) ?_
      refine lv_iload hx hb dX5_poke_63 (lv_at hl 5 rfl) ?_
      refine lv_imul hx hb dX5_poke_65 ?_
      refine lv_isub hx hb dX5_poke_66 ?_
      refine lv_ishr hx hb dX5_poke_67 ?_
      refine lv_sipush (v := 255) hx hb dX5_poke_68 (by decide) ?_
      refine lv_iand hx hb dX5_poke_71 ?_
      obtain ⟨h_3, hf⟩ := pIn_out hf
      refine va_iast hx hb hK hP hD hS 1 0 rfl rfl h_3 dX5_poke_72 (fun H locs hP hD hS => ?_)
      obtain ⟨u_4, eu_4, hf⟩ := pLet_out hf
      replace hP : va_P D vwCl (wM a0 a1 a2 a3 a4 a5 a6 a7 a8 a9 a10 a11 a12 a13 cI u_4) H := by rw [eu_4]; exact hP
      replace hD : va_D A (wM a0 a1 a2 a3 a4 a5 a6 a7 a8 a9 a10 a11 a12 a13 cI u_4) := by rw [eu_4]; exact hD
      refine lv_aload_n hx hb dX5_poke_73 rfl (lv_at hl 1 rfl) ?_
      refine lv_iload hx hb dX5_poke_74 (lv_at hl 0 rfl) ?_
      obtain ⟨z_5, hz_5, hf⟩ := pB_out hf
      refine gI (w' := (wM a0 a1 a2 a3 a4 a5 a6 a7 a8 a9 a10 a11 a12 a13 cI z_5.2)) (va_runV (As := [.int x_2]) (rest := []) ⟨hx, hb, hml, hown, hts⟩ (ctX5_invalidate l D cI a0 a1 a2 a3 a4 a5 a6 a7 a8 a9 a10 a11 a12 a13 u_4 x_2 z_5 hz_5 H.size) (cwV 1 hts gX5_poke_X5_invalidate rfl rfl rfl (by decide +kernel) ⟨Nat.le_of_ble_eq_true rfl, Nat.le_of_ble_eq_true rfl⟩) (gPreV (ci := 4) (C := RX5) (T := TX5) (N := 27) hP hK hD [0, 1, 2, 3, 4, 5, 6, 7, 8, 9, 10, 11, 12, 13] (by decide) rfl 0 rfl rfl) rfl rfl hl.1 rfl (lv_room (Nat.le_of_ble_eq_true rfl)) dX5_poke_76 ⟨Nat.le_of_ble_eq_true rfl, Nat.le_of_ble_eq_true rfl⟩) hP hD hS hA [0, 1, 2, 3, 4, 5, 6, 7, 8, 9, 10, 11, 12, 13] [] [0, 1, 2, 3, 4, 5, 6, 7, 8, 9, 10, 11, 12, 13] rfl rfl (by decide) (by decide) rfl (by decide) (fun H locs hP hD hS => ?_)
      refine lv_istore (lv' := [(6, .int z_5.1), (5, .int x_2), (0, .ref a0), (1, .int x1), (2, .int x2), (3, .int x3), (4, .int x4)]) hx hb dX5_poke_79 hl (by decide) rfl (fun ls hl => ?_)
      obtain ⟨x_6, ex_6, hf⟩ := pLet_out hf
      refine lv_iinc (v := x_6) (lv' := [(4, .int x_6), (6, .int z_5.1), (5, .int x_2), (0, .ref a0), (1, .int x1), (2, .int x2), (3, .int x3)]) hx hb dX5_poke_81 hl (k := 6) rfl (by rw [ex_6]; rfl) (by decide) rfl (fun ls hl => ?_)
      refine lv_goto (tgt := 36) hx hb dX5_poke_84 (by decide) ?_
      exact ih _ _ _ _ _ _ H locs ls hf hP hD hS (lv_sub hl [3, 4, 5, 6, 0] rfl)
set_option maxRecDepth 100000 in
set_option maxHeartbeats 4000000 in
theorem wkX5_poke_b26 {p : Program} {l : Launch} {e : Env} {s : State} {m : MethodId} {args : Array Value} {below : List Frame} {meth : Method} {c : Code} {D : va_G} {cI : ClassId} {A : Nat → Prop} {a0 a1 a2 a3 a4 a5 a6 a7 a8 a9 a10 a11 a12 a13 : Nat} (C : cxt p s m args meth c cX5_poke none 7 RX5 wsX5_poke D vwCl [(cI, .int)] A) : ∀ (z : TM) (u : TM) (x1 : Int32) (x2 : Int32) (x3 : Int32) (y0 : Int32) (H : Heap) (locs : List Loc) (ls : Array Slot), fX5_poke_b26 u x1 x2 x3 y0 = some z → va_P D vwCl (wM a0 a1 a2 a3 a4 a5 a6 a7 a8 a9 a10 a11 a12 a13 cI u) H → va_D A (wM a0 a1 a2 a3 a4 a5 a6 a7 a8 a9 a10 a11 a12 a13 cI u) → va_S A s.heap H locs → lv_has ls 7 [(0, .ref a0), (1, .int x1), (2, .int x2), (3, .int x3)] → W p l e rmX5_poke s m args below meth c H locs 0 0 (MQ below (oV D vwCl [(cI, .int)] A (wM a0 a1 a2 a3 a4 a5 a6 a7 a8 a9 a10 a11 a12 a13 cI z)) args s 0 0 A) (F0 m 26 ls [.int y0, .ref a0]) := by
  have C0 := C
  obtain ⟨hx, hb, hr, hml, hown, hts, hlocks, hK, hA⟩ := C
  intro z u x1 x2 x3 y0 H locs ls hf hP hD hS hl
  unfold fX5_poke_b26 at hf
  obtain ⟨z_1, hz_1, hf⟩ := pLet_out hf
  refine gI (w' := (wM a0 a1 a2 a3 a4 a5 a6 a7 a8 a9 a10 a11 a12 a13 cI z_1.2)) (va_runV (As := [.int y0]) (rest := []) ⟨hx, hb, hml, hown, hts⟩ (ctX5_refused l D cI a0 a1 a2 a3 a4 a5 a6 a7 a8 a9 a10 a11 a12 a13 u y0 z_1 hz_1.symm H.size) (cwV 1 hts gX5_poke_X5_refused rfl rfl rfl (by decide +kernel) ⟨Nat.le_of_ble_eq_true rfl, Nat.le_of_ble_eq_true rfl⟩) (gPreV (ci := 4) (C := RX5) (T := TX5) (N := 27) hP hK hD [0, 1, 2, 3, 4, 5, 6, 7, 8, 9, 10, 11, 12, 13] (by decide) rfl 0 rfl rfl) rfl rfl hl.1 rfl (lv_room (Nat.le_of_ble_eq_true rfl)) dX5_poke_26 ⟨Nat.le_of_ble_eq_true rfl, Nat.le_of_ble_eq_true rfl⟩) hP hD hS hA [0, 1, 2, 3, 4, 5, 6, 7, 8, 9, 10, 11, 12, 13] [] [0, 1, 2, 3, 4, 5, 6, 7, 8, 9, 10, 11, 12, 13] rfl rfl (by decide) (by decide) rfl (by decide) (fun H locs hP hD hS => ?_)
  refine lv_if_eq (tgt := 33) hx hb dX5_poke_29 (by decide) (fun c_2 => ?_) (fun c_2 => ?_)
  · replace hf := pI_t c_2 hf
    refine lv_iconst (v := 0) hx hb dX5_poke_33 (by decide) ?_
    refine lv_istore (lv' := [(4, .int 0), (0, .ref a0), (1, .int x1), (2, .int x2), (3, .int x3)]) hx hb dX5_poke_34 hl (by decide) rfl (fun ls hl => ?_)
    exact wkX5_poke_b36 C0 fuelX5_poke_36 _ _ _ _ _ _ H locs ls hf hP hD hS (lv_sub hl [1, 2, 3, 4, 0] rfl)
  · replace hf := pI_f c_2 hf
    have hz := Option.some.inj hf
    subst hz
    exact gRetV hx hb hr hlocks hK hP hD hS rfl dX5_poke_32
set_option maxRecDepth 100000 in
set_option maxHeartbeats 4000000 in
theorem wkX5_poke_b25 {p : Program} {l : Launch} {e : Env} {s : State} {m : MethodId} {args : Array Value} {below : List Frame} {meth : Method} {c : Code} {D : va_G} {cI : ClassId} {A : Nat → Prop} {a0 a1 a2 a3 a4 a5 a6 a7 a8 a9 a10 a11 a12 a13 : Nat} (C : cxt p s m args meth c cX5_poke none 7 RX5 wsX5_poke D vwCl [(cI, .int)] A) : ∀ (z : TM) (u : TM) (x1 : Int32) (x2 : Int32) (x3 : Int32) (H : Heap) (locs : List Loc) (ls : Array Slot), fX5_poke_b25 u x1 x2 x3 = some z → va_P D vwCl (wM a0 a1 a2 a3 a4 a5 a6 a7 a8 a9 a10 a11 a12 a13 cI u) H → va_D A (wM a0 a1 a2 a3 a4 a5 a6 a7 a8 a9 a10 a11 a12 a13 cI u) → va_S A s.heap H locs → lv_has ls 7 [(0, .ref a0), (1, .int x1), (2, .int x2), (3, .int x3)] → W p l e rmX5_poke s m args below meth c H locs 0 0 (MQ below (oV D vwCl [(cI, .int)] A (wM a0 a1 a2 a3 a4 a5 a6 a7 a8 a9 a10 a11 a12 a13 cI z)) args s 0 0 A) (F0 m 25 ls [.ref a0]) := by
  have C0 := C
  obtain ⟨hx, hb, hr, hml, hown, hts, hlocks, hK, hA⟩ := C
  intro z u x1 x2 x3 H locs ls hf hP hD hS hl
  unfold fX5_poke_b25 at hf
  refine lv_iconst (v := 1) hx hb dX5_poke_25 (by decide) ?_
  exact wkX5_poke_b26 C0 _ _ _ _ _ _ H locs ls hf hP hD hS (lv_sub hl [0, 1, 2, 3] rfl)
set_option maxRecDepth 100000 in
set_option maxHeartbeats 4000000 in
theorem wkX5_poke {p : Program} {l : Launch} {e : Env} {s : State} {m : MethodId} {args : Array Value} {below : List Frame} {meth : Method} {c : Code} {D : va_G} {cI : ClassId} {A : Nat → Prop} {a0 a1 a2 a3 a4 a5 a6 a7 a8 a9 a10 a11 a12 a13 : Nat} (C : cxt p s m args meth c cX5_poke none 7 RX5 wsX5_poke D vwCl [(cI, .int)] A) : ∀ (z : TM) (u : TM) (x1 : Int32) (x2 : Int32) (x3 : Int32) (H : Heap) (locs : List Loc) (ls : Array Slot), fX5_poke u x1 x2 x3 = some z → va_P D vwCl (wM a0 a1 a2 a3 a4 a5 a6 a7 a8 a9 a10 a11 a12 a13 cI u) H → va_D A (wM a0 a1 a2 a3 a4 a5 a6 a7 a8 a9 a10 a11 a12 a13 cI u) → va_S A s.heap H locs → lv_has ls 7 [(0, .ref a0), (1, .int x1), (2, .int x2), (3, .int x3)] → W p l e rmX5_poke s m args below meth c H locs 0 0 (MQ below (oV D vwCl [(cI, .int)] A (wM a0 a1 a2 a3 a4 a5 a6 a7 a8 a9 a10 a11 a12 a13 cI z)) args s 0 0 A) (F0 m 0 ls []) := by
  have C0 := C
  obtain ⟨hx, hb, hr, hml, hown, hts, hlocks, hK, hA⟩ := C
  intro z u x1 x2 x3 H locs ls hf hP hD hS hl
  unfold fX5_poke at hf
  refine lv_aload_n hx hb dX5_poke_0 rfl (lv_at hl 0 rfl) ?_
  refine lv_iload_n hx hb dX5_poke_1 rfl (lv_at hl 1 rfl) ?_
  refine lv_iconst (v := 0) hx hb dX5_poke_2 (by decide) ?_
  refine lv_sipush (v := 255) hx hb dX5_poke_3 (by decide) ?_
  obtain ⟨z_1, hz_1, hf⟩ := pLet_out hf
  refine gI0 (va_runS (As := [.int x1, .int 0, .int 255]) (rest := [.ref a0]) ⟨hx, hb, hml, hown, hts⟩ (ctX5_isIn l D cI x1 0 255 z_1 hz_1.symm H.size) (va_cwS 3 hts gX5_poke_X5_isIn rfl rfl rfl (by decide +kernel) ⟨Nat.le_of_ble_eq_true rfl, Nat.le_of_ble_eq_true rfl⟩) (gPreS hP hK hD [] (by decide) rfl) rfl rfl hl.1 rfl (lv_room (Nat.le_of_ble_eq_true rfl)) dX5_poke_6 ⟨Nat.le_of_ble_eq_true rfl, Nat.le_of_ble_eq_true rfl⟩) hP hD hS hA (fun H locs hP hS => ?_)
  refine lv_if_eq (tgt := 25) hx hb dX5_poke_9 (by decide) (fun c_2 => ?_) (fun c_2 => ?_)
  · replace hf := pI_t c_2 hf
    exact wkX5_poke_b25 C0 _ _ _ _ _ H locs ls hf hP hD hS (lv_sub hl [0, 1, 2, 3] rfl)
  · replace hf := pI_f c_2 hf
    refine lv_iload_n hx hb dX5_poke_12 rfl (lv_at hl 3 rfl) ?_
    refine lv_iconst (v := 1) hx hb dX5_poke_13 (by decide) ?_
    refine lv_iconst (v := 4) hx hb dX5_poke_14 (by decide) ?_
    obtain ⟨z_3, hz_3, hf⟩ := pLet_out hf
    refine gI0 (va_runS (As := [.int x3, .int 1, .int 4]) (rest := [.ref a0]) ⟨hx, hb, hml, hown, hts⟩ (ctX5_isIn l D cI x3 1 4 z_3 hz_3.symm H.size) (va_cwS 3 hts gX5_poke_X5_isIn rfl rfl rfl (by decide +kernel) ⟨Nat.le_of_ble_eq_true rfl, Nat.le_of_ble_eq_true rfl⟩) (gPreS hP hK hD [] (by decide) rfl) rfl rfl hl.1 rfl (lv_room (Nat.le_of_ble_eq_true rfl)) dX5_poke_15 ⟨Nat.le_of_ble_eq_true rfl, Nat.le_of_ble_eq_true rfl⟩) hP hD hS hA (fun H locs hP hS => ?_)
    refine lv_if_eq (tgt := 25) hx hb dX5_poke_18 (by decide) (fun c_4 => ?_) (fun c_4 => ?_)
    · replace hf := pI_t c_4 hf
      exact wkX5_poke_b25 C0 _ _ _ _ _ H locs ls hf hP hD hS (lv_sub hl [0, 1, 2, 3] rfl)
    · replace hf := pI_f c_4 hf
      refine lv_iconst (v := 0) hx hb dX5_poke_21 (by decide) ?_
      refine lv_goto (tgt := 26) hx hb dX5_poke_22 (by decide) ?_
      exact wkX5_poke_b26 C0 _ _ _ _ _ _ H locs ls hf hP hD hS (lv_sub hl [0, 1, 2, 3] rfl)
theorem ctX5_poke (l : Launch) (D : va_G) (cI : ClassId) (a0 a1 a2 a3 a4 a5 a6 a7 a8 a9 a10 a11 a12 a13 : Nat) (u : TM) (x1 : Int32) (x2 : Int32) (x3 : Int32) (z : TM) (hz : fX5_poke u x1 x2 x3 = some z) : CtV l yX5_poke wsX5_poke rmX5_poke D vwCl [(cI, .int)] [.ref a0, .int x1, .int x2, .int x3] (wM a0 a1 a2 a3 a4 a5 a6 a7 a8 a9 a10 a11 a12 a13 cI u) (wM a0 a1 a2 a3 a4 a5 a6 a7 a8 a9 a10 a11 a12 a13 cI z) :=
  ctV_of (cc := cX5_poke) (maxL := 7) (ret := none) (by decide) rfl (Nat.le_of_ble_eq_true rfl) (fun p e s m below meth c A ls C hl hP hD hS => wkX5_poke C z _ _ _ _ s.heap [] ls hz hP hD hS hl)
abbrev rmX5_peek : Room := { frames := 1, cells := 0, slots := 0, locals := 22 }
theorem inX5_peek_X5 : ∀ w ∈ wsX50, w ∈ wsX5_peek := by decide +kernel
set_option maxRecDepth 100000 in
set_option maxHeartbeats 4000000 in
theorem wkX5_peek_b17 {p : Program} {l : Launch} {e : Env} {s : State} {m : MethodId} {args : Array Value} {below : List Frame} {meth : Method} {c : Code} {D : va_G} {cI : ClassId} {A : Nat → Prop} {a0 a1 a2 a3 a4 a5 a6 a7 a8 a9 a10 a11 a12 a13 : Nat} (C : cxt p s m args meth c cX5_peek (some .int) 2 RX5 wsX5_peek D vwCl [(cI, .int)] A) : ∀ (z : Int32 × TM) (u : TM) (x1 : Int32) (y0 : Int32) (H : Heap) (locs : List Loc) (ls : Array Slot), fX5_peek_b17 u x1 y0 = some z → va_P D vwCl (wM a0 a1 a2 a3 a4 a5 a6 a7 a8 a9 a10 a11 a12 a13 cI u) H → va_D A (wM a0 a1 a2 a3 a4 a5 a6 a7 a8 a9 a10 a11 a12 a13 cI u) → va_S A s.heap H locs → lv_has ls 2 [(0, .ref a0), (1, .int x1)] → W p l e rmX5_peek s m args below meth c H locs 0 0 (MQ below (oI D vwCl [(cI, .int)] A z.1 (wM a0 a1 a2 a3 a4 a5 a6 a7 a8 a9 a10 a11 a12 a13 cI z.2)) args s 0 0 A) (F0 m 17 ls [.int y0, .ref a0]) := by
  have C0 := C
  obtain ⟨hx, hb, hr, hml, hown, hts, hlocks, hK, hA⟩ := C
  intro z u x1 y0 H locs ls hf hP hD hS hl
  unfold fX5_peek_b17 at hf
  obtain ⟨z_1, hz_1, hf⟩ := pLet_out hf
  refine gI (w' := (wM a0 a1 a2 a3 a4 a5 a6 a7 a8 a9 a10 a11 a12 a13 cI z_1.2)) (va_runV (As := [.int y0]) (rest := []) ⟨hx, hb, hml, hown, hts⟩ (ctX5_refused l D cI a0 a1 a2 a3 a4 a5 a6 a7 a8 a9 a10 a11 a12 a13 u y0 z_1 hz_1.symm H.size) (cwV 1 hts gX5_peek_X5_refused rfl rfl rfl (by decide +kernel) ⟨Nat.le_of_ble_eq_true rfl, Nat.le_of_ble_eq_true rfl⟩) (gPreV (ci := 4) (C := RX5) (T := TX5) (N := 27) hP hK hD [0, 1, 2, 3, 4, 5, 6, 7, 8, 9, 10, 11, 12, 13] (by decide) rfl 0 rfl rfl) rfl rfl hl.1 rfl (lv_room (Nat.le_of_ble_eq_true rfl)) dX5_peek_17 ⟨Nat.le_of_ble_eq_true rfl, Nat.le_of_ble_eq_true rfl⟩) hP hD hS hA [0, 1, 2, 3, 4, 5, 6, 7, 8, 9, 10, 11, 12, 13] [] [0, 1, 2, 3, 4, 5, 6, 7, 8, 9, 10, 11, 12, 13] rfl rfl (by decide) (by decide) rfl (by decide) (fun H locs hP hD hS => ?_)
  refine lv_if_eq (tgt := 25) hx hb dX5_peek_20 (by decide) (fun c_2 => ?_) (fun c_2 => ?_)
  · replace hf := pI_t c_2 hf
    refine lv_aload_n hx hb dX5_peek_25 rfl (lv_at hl 0 rfl) ?_
    refine va_get (D := D) (ci := 4) (v := .ref a1) (C := RX5) (T := TX5) (N := 27) hx hb hts inX5_peek_X5 hown hK hP 0 rfl rfl 1 (by decide) (hts (.fieldLink RX5 7 "BlockCacheModel" "memory" "[I") (by decide +kernel)) (fun _ h9 => h9) rfl dX5_peek_26 ?_
    refine lv_iload_n hx hb dX5_peek_29 rfl (lv_at hl 1 rfl) ?_
    obtain ⟨h_3, hf⟩ := pIn_out hf
    refine va_iald hx hb hK hP 1 0 rfl rfl h_3 dX5_peek_30 ?_
    have hz := Option.some.inj hf
    subst hz
    exact gRetI hx hb hr hlocks hK hP hD hS rfl rfl dX5_peek_31
  · replace hf := pI_f c_2 hf
    refine lv_iconst (v := 0) hx hb dX5_peek_23 (by decide) ?_
    have hz := Option.some.inj hf
    subst hz
    exact gRetI hx hb hr hlocks hK hP hD hS rfl rfl dX5_peek_24
set_option maxRecDepth 100000 in
set_option maxHeartbeats 4000000 in
theorem wkX5_peek {p : Program} {l : Launch} {e : Env} {s : State} {m : MethodId} {args : Array Value} {below : List Frame} {meth : Method} {c : Code} {D : va_G} {cI : ClassId} {A : Nat → Prop} {a0 a1 a2 a3 a4 a5 a6 a7 a8 a9 a10 a11 a12 a13 : Nat} (C : cxt p s m args meth c cX5_peek (some .int) 2 RX5 wsX5_peek D vwCl [(cI, .int)] A) : ∀ (z : Int32 × TM) (u : TM) (x1 : Int32) (H : Heap) (locs : List Loc) (ls : Array Slot), fX5_peek u x1 = some z → va_P D vwCl (wM a0 a1 a2 a3 a4 a5 a6 a7 a8 a9 a10 a11 a12 a13 cI u) H → va_D A (wM a0 a1 a2 a3 a4 a5 a6 a7 a8 a9 a10 a11 a12 a13 cI u) → va_S A s.heap H locs → lv_has ls 2 [(0, .ref a0), (1, .int x1)] → W p l e rmX5_peek s m args below meth c H locs 0 0 (MQ below (oI D vwCl [(cI, .int)] A z.1 (wM a0 a1 a2 a3 a4 a5 a6 a7 a8 a9 a10 a11 a12 a13 cI z.2)) args s 0 0 A) (F0 m 0 ls []) := by
  have C0 := C
  obtain ⟨hx, hb, hr, hml, hown, hts, hlocks, hK, hA⟩ := C
  intro z u x1 H locs ls hf hP hD hS hl
  unfold fX5_peek at hf
  refine lv_aload_n hx hb dX5_peek_0 rfl (lv_at hl 0 rfl) ?_
  refine lv_iload_n hx hb dX5_peek_1 rfl (lv_at hl 1 rfl) ?_
  refine lv_iconst (v := 0) hx hb dX5_peek_2 (by decide) ?_
  refine lv_sipush (v := 255) hx hb dX5_peek_3 (by decide) ?_
  obtain ⟨z_1, hz_1, hf⟩ := pLet_out hf
  refine gI0 (va_runS (As := [.int x1, .int 0, .int 255]) (rest := [.ref a0]) ⟨hx, hb, hml, hown, hts⟩ (ctX5_isIn l D cI x1 0 255 z_1 hz_1.symm H.size) (va_cwS 3 hts gX5_peek_X5_isIn rfl rfl rfl (by decide +kernel) ⟨Nat.le_of_ble_eq_true rfl, Nat.le_of_ble_eq_true rfl⟩) (gPreS hP hK hD [] (by decide) rfl) rfl rfl hl.1 rfl (lv_room (Nat.le_of_ble_eq_true rfl)) dX5_peek_6 ⟨Nat.le_of_ble_eq_true rfl, Nat.le_of_ble_eq_true rfl⟩) hP hD hS hA (fun H locs hP hS => ?_)
  refine lv_if_eq (tgt := 16) hx hb dX5_peek_9 (by decide) (fun c_2 => ?_) (fun c_2 => ?_)
  · replace hf := pI_t c_2 hf
    refine lv_iconst (v := 1) hx hb dX5_peek_16 (by decide) ?_
    exact wkX5_peek_b17 C0 _ _ _ _ H locs ls hf hP hD hS (lv_sub hl [0, 1] rfl)
  · replace hf := pI_f c_2 hf
    refine lv_iconst (v := 0) hx hb dX5_peek_12 (by decide) ?_
    refine lv_goto (tgt := 17) hx hb dX5_peek_13 (by decide) ?_
    exact wkX5_peek_b17 C0 _ _ _ _ H locs ls hf hP hD hS (lv_sub hl [0, 1] rfl)
theorem ctX5_peek (l : Launch) (D : va_G) (cI : ClassId) (a0 a1 a2 a3 a4 a5 a6 a7 a8 a9 a10 a11 a12 a13 : Nat) (u : TM) (x1 : Int32) (z : Int32 × TM) (hz : fX5_peek u x1 = some z) : CtI l yX5_peek wsX5_peek rmX5_peek D vwCl [(cI, .int)] [.ref a0, .int x1] (wM a0 a1 a2 a3 a4 a5 a6 a7 a8 a9 a10 a11 a12 a13 cI u) z.1 (wM a0 a1 a2 a3 a4 a5 a6 a7 a8 a9 a10 a11 a12 a13 cI z.2) :=
  ctI_of (cc := cX5_peek) (maxL := 2) (ret := (some .int)) (by decide) rfl (Nat.le_of_ble_eq_true rfl) (fun p e s m below meth c A ls C hl hP hD hS => wkX5_peek C z _ _ s.heap [] ls hz hP hD hS hl)
abbrev rmX5_set : Room := { frames := 1, cells := 0, slots := 0, locals := 22 }
theorem inX5_set_X5 : ∀ w ∈ wsX50, w ∈ wsX5_set := by decide +kernel
set_option maxRecDepth 100000 in
set_option maxHeartbeats 4000000 in
theorem wkX5_set_b52 {p : Program} {l : Launch} {e : Env} {s : State} {m : MethodId} {args : Array Value} {below : List Frame} {meth : Method} {c : Code} {D : va_G} {cI : ClassId} {A : Nat → Prop} {a0 a1 a2 a3 a4 a5 a6 a7 a8 a9 a10 a11 a12 a13 : Nat} (C : cxt p s m args meth c cX5_set none 4 RX5 wsX5_set D vwCl [(cI, .int)] A) : ∀ (z : TM) (u : TM) (x1 : Int32) (x2 : Int32) (y0 : Int32) (H : Heap) (locs : List Loc) (ls : Array Slot), fX5_set_b52 u x1 x2 y0 = some z → va_P D vwCl (wM a0 a1 a2 a3 a4 a5 a6 a7 a8 a9 a10 a11 a12 a13 cI u) H → va_D A (wM a0 a1 a2 a3 a4 a5 a6 a7 a8 a9 a10 a11 a12 a13 cI u) → va_S A s.heap H locs → lv_has ls 4 [(0, .ref a0), (1, .int x1), (2, .int x2)] → W p l e rmX5_set s m args below meth c H locs 0 0 (MQ below (oV D vwCl [(cI, .int)] A (wM a0 a1 a2 a3 a4 a5 a6 a7 a8 a9 a10 a11 a12 a13 cI z)) args s 0 0 A) (F0 m 52 ls [.int y0, .ref a0]) := by
  have C0 := C
  obtain ⟨hx, hb, hr, hml, hown, hts, hlocks, hK, hA⟩ := C
  intro z u x1 x2 y0 H locs ls hf hP hD hS hl
  unfold fX5_set_b52 at hf
  obtain ⟨z_1, hz_1, hf⟩ := pLet_out hf
  refine gI (w' := (wM a0 a1 a2 a3 a4 a5 a6 a7 a8 a9 a10 a11 a12 a13 cI z_1.2)) (va_runV (As := [.int y0]) (rest := []) ⟨hx, hb, hml, hown, hts⟩ (ctX5_refused l D cI a0 a1 a2 a3 a4 a5 a6 a7 a8 a9 a10 a11 a12 a13 u y0 z_1 hz_1.symm H.size) (cwV 1 hts gX5_set_X5_refused rfl rfl rfl (by decide +kernel) ⟨Nat.le_of_ble_eq_true rfl, Nat.le_of_ble_eq_true rfl⟩) (gPreV (ci := 4) (C := RX5) (T := TX5) (N := 27) hP hK hD [0, 1, 2, 3, 4, 5, 6, 7, 8, 9, 10, 11, 12, 13] (by decide) rfl 0 rfl rfl) rfl rfl hl.1 rfl (lv_room (Nat.le_of_ble_eq_true rfl)) dX5_set_52 ⟨Nat.le_of_ble_eq_true rfl, Nat.le_of_ble_eq_true rfl⟩) hP hD hS hA [0, 1, 2, 3, 4, 5, 6, 7, 8, 9, 10, 11, 12, 13] [] [0, 1, 2, 3, 4, 5, 6, 7, 8, 9, 10, 11, 12, 13] rfl rfl (by decide) (by decide) rfl (by decide) (fun H locs hP hD hS => ?_)
  refine lv_if_eq (tgt := 59) hx hb dX5_set_55 (by decide) (fun c_2 => ?_) (fun c_2 => ?_)
  · replace hf := pI_t c_2 hf
    refine lv_aload_n hx hb dX5_set_59 rfl (lv_at hl 0 rfl) ?_
    refine va_get (D := D) (ci := 4) (v := .ref a2) (C := RX5) (T := TX5) (N := 27) hx hb hts inX5_set_X5 hown hK hP 0 rfl rfl 2 (by decide) (hts (.fieldLink RX5 13 "BlockCacheModel" "reg" "[I") (by decide +kernel)) (fun _ h9 => h9) rfl dX5_set_60 ?_
    refine lv_iload_n hx hb dX5_set_63 rfl (lv_at hl 1 rfl) ?_
    refine lv_iload_n hx hb dX5_set_64 rfl (lv_at hl 2 rfl) ?_
    obtain ⟨h_3, hf⟩ := pIn_out hf
    refine va_iast hx hb hK hP hD hS 2 0 rfl rfl h_3 dX5_set_65 (fun H locs hP hD hS => ?_)
    obtain ⟨u_4, eu_4, hf⟩ := pLet_out hf
    replace hP : va_P D vwCl (wM a0 a1 a2 a3 a4 a5 a6 a7 a8 a9 a10 a11 a12 a13 cI u_4) H := by rw [eu_4]; exact hP
    replace hD : va_D A (wM a0 a1 a2 a3 a4 a5 a6 a7 a8 a9 a10 a11 a12 a13 cI u_4) := by rw [eu_4]; exact hD
    have hz := Option.some.inj hf
    subst hz
    exact gRetV hx hb hr hlocks hK hP hD hS rfl dX5_set_66
  · replace hf := pI_f c_2 hf
    have hz := Option.some.inj hf
    subst hz
    exact gRetV hx hb hr hlocks hK hP hD hS rfl dX5_set_58
set_option maxRecDepth 100000 in
set_option maxHeartbeats 4000000 in
theorem wkX5_set_b41 {p : Program} {l : Launch} {e : Env} {s : State} {m : MethodId} {args : Array Value} {below : List Frame} {meth : Method} {c : Code} {D : va_G} {cI : ClassId} {A : Nat → Prop} {a0 a1 a2 a3 a4 a5 a6 a7 a8 a9 a10 a11 a12 a13 : Nat} (C : cxt p s m args meth c cX5_set none 4 RX5 wsX5_set D vwCl [(cI, .int)] A) : ∀ (z : TM) (u : TM) (x1 : Int32) (x2 : Int32) (y0 : Int32) (H : Heap) (locs : List Loc) (ls : Array Slot), fX5_set_b41 u x1 x2 y0 = some z → va_P D vwCl (wM a0 a1 a2 a3 a4 a5 a6 a7 a8 a9 a10 a11 a12 a13 cI u) H → va_D A (wM a0 a1 a2 a3 a4 a5 a6 a7 a8 a9 a10 a11 a12 a13 cI u) → va_S A s.heap H locs → lv_has ls 4 [(0, .ref a0), (1, .int x1), (2, .int x2)] → W p l e rmX5_set s m args below meth c H locs 0 0 (MQ below (oV D vwCl [(cI, .int)] A (wM a0 a1 a2 a3 a4 a5 a6 a7 a8 a9 a10 a11 a12 a13 cI z)) args s 0 0 A) (F0 m 41 ls [.int y0]) := by
  have C0 := C
  obtain ⟨hx, hb, hr, hml, hown, hts, hlocks, hK, hA⟩ := C
  intro z u x1 x2 y0 H locs ls hf hP hD hS hl
  unfold fX5_set_b41 at hf
  refine lv_istore_n (lv' := [(3, .int y0), (0, .ref a0), (1, .int x1), (2, .int x2)]) hx hb dX5_set_41 rfl hl (by decide) rfl (fun ls hl => ?_)
  refine lv_aload_n hx hb dX5_set_42 rfl (lv_at hl 1 rfl) ?_
  refine lv_iload_n hx hb dX5_set_43 rfl (lv_at hl 0 rfl) ?_
  refine lv_if_eq (tgt := 51) hx hb dX5_set_44 (by decide) (fun c_1 => ?_) (fun c_1 => ?_)
  · replace hf := pI_t c_1 hf
    refine lv_iconst (v := 1) hx hb dX5_set_51 (by decide) ?_
    exact wkX5_set_b52 C0 _ _ _ _ _ H locs ls hf hP hD hS (lv_sub hl [1, 2, 3] rfl)
  · replace hf := pI_f c_1 hf
    refine lv_iconst (v := 0) hx hb dX5_set_47 (by decide) ?_
    refine lv_goto (tgt := 52) hx hb dX5_set_48 (by decide) ?_
    exact wkX5_set_b52 C0 _ _ _ _ _ H locs ls hf hP hD hS (lv_sub hl [1, 2, 3] rfl)
set_option maxRecDepth 100000 in
set_option maxHeartbeats 4000000 in
theorem wkX5_set_b40 {p : Program} {l : Launch} {e : Env} {s : State} {m : MethodId} {args : Array Value} {below : List Frame} {meth : Method} {c : Code} {D : va_G} {cI : ClassId} {A : Nat → Prop} {a0 a1 a2 a3 a4 a5 a6 a7 a8 a9 a10 a11 a12 a13 : Nat} (C : cxt p s m args meth c cX5_set none 4 RX5 wsX5_set D vwCl [(cI, .int)] A) : ∀ (z : TM) (u : TM) (x1 : Int32) (x2 : Int32) (H : Heap) (locs : List Loc) (ls : Array Slot), fX5_set_b40 u x1 x2 = some z → va_P D vwCl (wM a0 a1 a2 a3 a4 a5 a6 a7 a8 a9 a10 a11 a12 a13 cI u) H → va_D A (wM a0 a1 a2 a3 a4 a5 a6 a7 a8 a9 a10 a11 a12 a13 cI u) → va_S A s.heap H locs → lv_has ls 4 [(0, .ref a0), (1, .int x1), (2, .int x2)] → W p l e rmX5_set s m args below meth c H locs 0 0 (MQ below (oV D vwCl [(cI, .int)] A (wM a0 a1 a2 a3 a4 a5 a6 a7 a8 a9 a10 a11 a12 a13 cI z)) args s 0 0 A) (F0 m 40 ls []) := by
  have C0 := C
  obtain ⟨hx, hb, hr, hml, hown, hts, hlocks, hK, hA⟩ := C
  intro z u x1 x2 H locs ls hf hP hD hS hl
  unfold fX5_set_b40 at hf
  refine lv_iconst (v := 0) hx hb dX5_set_40 (by decide) ?_
  exact wkX5_set_b41 C0 _ _ _ _ _ H locs ls hf hP hD hS (lv_sub hl [0, 1, 2] rfl)
set_option maxRecDepth 100000 in
set_option maxHeartbeats 4000000 in
theorem wkX5_set_b30 {p : Program} {l : Launch} {e : Env} {s : State} {m : MethodId} {args : Array Value} {below : List Frame} {meth : Method} {c : Code} {D : va_G} {cI : ClassId} {A : Nat → Prop} {a0 a1 a2 a3 a4 a5 a6 a7 a8 a9 a10 a11 a12 a13 : Nat} (C : cxt p s m args meth c cX5_set none 4 RX5 wsX5_set D vwCl [(cI, .int)] A) : ∀ (z : TM) (u : TM) (x1 : Int32) (x2 : Int32) (y0 : Int32) (y1 : Int32) (y2 : Int32) (H : Heap) (locs : List Loc) (ls : Array Slot), fX5_set_b30 u x1 x2 y0 y1 y2 = some z → va_P D vwCl (wM a0 a1 a2 a3 a4 a5 a6 a7 a8 a9 a10 a11 a12 a13 cI u) H → va_D A (wM a0 a1 a2 a3 a4 a5 a6 a7 a8 a9 a10 a11 a12 a13 cI u) → va_S A s.heap H locs → lv_has ls 4 [(0, .ref a0), (1, .int x1), (2, .int x2)] → W p l e rmX5_set s m args below meth c H locs 0 0 (MQ below (oV D vwCl [(cI, .int)] A (wM a0 a1 a2 a3 a4 a5 a6 a7 a8 a9 a10 a11 a12 a13 cI z)) args s 0 0 A) (F0 m 30 ls [.int y0, .int y1, .int y2]) := by
  have C0 := C
  obtain ⟨hx, hb, hr, hml, hown, hts, hlocks, hK, hA⟩ := C
  intro z u x1 x2 y0 y1 y2 H locs ls hf hP hD hS hl
  unfold fX5_set_b30 at hf
  obtain ⟨z_1, hz_1, hf⟩ := pLet_out hf
  refine gI0 (va_runS (As := [.int y2, .int y1, .int y0]) (rest := []) ⟨hx, hb, hml, hown, hts⟩ (ctX5_isIn l D cI y2 y1 y0 z_1 hz_1.symm H.size) (va_cwS 3 hts gX5_set_X5_isIn rfl rfl rfl (by decide +kernel) ⟨Nat.le_of_ble_eq_true rfl, Nat.le_of_ble_eq_true rfl⟩) (gPreS hP hK hD [] (by decide) rfl) rfl rfl hl.1 rfl (lv_room (Nat.le_of_ble_eq_true rfl)) dX5_set_30 ⟨Nat.le_of_ble_eq_true rfl, Nat.le_of_ble_eq_true rfl⟩) hP hD hS hA (fun H locs hP hS => ?_)
  refine lv_if_eq (tgt := 40) hx hb dX5_set_33 (by decide) (fun c_2 => ?_) (fun c_2 => ?_)
  · replace hf := pI_t c_2 hf
    exact wkX5_set_b40 C0 _ _ _ _ H locs ls hf hP hD hS (lv_sub hl [0, 1, 2] rfl)
  · replace hf := pI_f c_2 hf
    refine lv_iconst (v := 1) hx hb dX5_set_36 (by decide) ?_
    refine lv_goto (tgt := 41) hx hb dX5_set_37 (by decide) ?_
    exact wkX5_set_b41 C0 _ _ _ _ _ H locs ls hf hP hD hS (lv_sub hl [0, 1, 2] rfl)
set_option maxRecDepth 100000 in
set_option maxHeartbeats 4000000 in
theorem wkX5_set_b27 {p : Program} {l : Launch} {e : Env} {s : State} {m : MethodId} {args : Array Value} {below : List Frame} {meth : Method} {c : Code} {D : va_G} {cI : ClassId} {A : Nat → Prop} {a0 a1 a2 a3 a4 a5 a6 a7 a8 a9 a10 a11 a12 a13 : Nat} (C : cxt p s m args meth c cX5_set none 4 RX5 wsX5_set D vwCl [(cI, .int)] A) : ∀ (z : TM) (u : TM) (x1 : Int32) (x2 : Int32) (y0 : Int32) (y1 : Int32) (H : Heap) (locs : List Loc) (ls : Array Slot), fX5_set_b27 u x1 x2 y0 y1 = some z → va_P D vwCl (wM a0 a1 a2 a3 a4 a5 a6 a7 a8 a9 a10 a11 a12 a13 cI u) H → va_D A (wM a0 a1 a2 a3 a4 a5 a6 a7 a8 a9 a10 a11 a12 a13 cI u) → va_S A s.heap H locs → lv_has ls 4 [(0, .ref a0), (1, .int x1), (2, .int x2)] → W p l e rmX5_set s m args below meth c H locs 0 0 (MQ below (oV D vwCl [(cI, .int)] A (wM a0 a1 a2 a3 a4 a5 a6 a7 a8 a9 a10 a11 a12 a13 cI z)) args s 0 0 A) (F0 m 27 ls [.int y0, .int y1]) := by
  have C0 := C
  obtain ⟨hx, hb, hr, hml, hown, hts, hlocks, hK, hA⟩ := C
  intro z u x1 x2 y0 y1 H locs ls hf hP hD hS hl
  unfold fX5_set_b27 at hf
  refine lv_sipush (v := 255) hx hb dX5_set_27 (by decide) ?_
  exact wkX5_set_b30 C0 _ _ _ _ _ _ _ H locs ls hf hP hD hS (lv_sub hl [0, 1, 2] rfl)
set_option maxRecDepth 100000 in
set_option maxHeartbeats 4000000 in
theorem wkX5_set {p : Program} {l : Launch} {e : Env} {s : State} {m : MethodId} {args : Array Value} {below : List Frame} {meth : Method} {c : Code} {D : va_G} {cI : ClassId} {A : Nat → Prop} {a0 a1 a2 a3 a4 a5 a6 a7 a8 a9 a10 a11 a12 a13 : Nat} (C : cxt p s m args meth c cX5_set none 4 RX5 wsX5_set D vwCl [(cI, .int)] A) : ∀ (z : TM) (u : TM) (x1 : Int32) (x2 : Int32) (H : Heap) (locs : List Loc) (ls : Array Slot), fX5_set u x1 x2 = some z → va_P D vwCl (wM a0 a1 a2 a3 a4 a5 a6 a7 a8 a9 a10 a11 a12 a13 cI u) H → va_D A (wM a0 a1 a2 a3 a4 a5 a6 a7 a8 a9 a10 a11 a12 a13 cI u) → va_S A s.heap H locs → lv_has ls 4 [(0, .ref a0), (1, .int x1), (2, .int x2)] → W p l e rmX5_set s m args below meth c H locs 0 0 (MQ below (oV D vwCl [(cI, .int)] A (wM a0 a1 a2 a3 a4 a5 a6 a7 a8 a9 a10 a11 a12 a13 cI z)) args s 0 0 A) (F0 m 0 ls []) := by
  have C0 := C
  obtain ⟨hx, hb, hr, hml, hown, hts, hlocks, hK, hA⟩ := C
  intro z u x1 x2 H locs ls hf hP hD hS hl
  unfold fX5_set at hf
  refine lv_iload_n hx hb dX5_set_0 rfl (lv_at hl 1 rfl) ?_
  refine lv_iconst (v := 0) hx hb dX5_set_1 (by decide) ?_
  refine lv_bipush (v := 9) hx hb dX5_set_2 (by decide) ?_
  obtain ⟨z_1, hz_1, hf⟩ := pLet_out hf
  refine gI0 (va_runS (As := [.int x1, .int 0, .int 9]) (rest := []) ⟨hx, hb, hml, hown, hts⟩ (ctX5_isIn l D cI x1 0 9 z_1 hz_1.symm H.size) (va_cwS 3 hts gX5_set_X5_isIn rfl rfl rfl (by decide +kernel) ⟨Nat.le_of_ble_eq_true rfl, Nat.le_of_ble_eq_true rfl⟩) (gPreS hP hK hD [] (by decide) rfl) rfl rfl hl.1 rfl (lv_room (Nat.le_of_ble_eq_true rfl)) dX5_set_4 ⟨Nat.le_of_ble_eq_true rfl, Nat.le_of_ble_eq_true rfl⟩) hP hD hS hA (fun H locs hP hS => ?_)
  refine lv_if_eq (tgt := 40) hx hb dX5_set_7 (by decide) (fun c_2 => ?_) (fun c_2 => ?_)
  · replace hf := pI_t c_2 hf
    exact wkX5_set_b40 C0 _ _ _ _ H locs ls hf hP hD hS (lv_sub hl [0, 1, 2] rfl)
  · replace hf := pI_f c_2 hf
    refine lv_iload_n hx hb dX5_set_10 rfl (lv_at hl 2 rfl) ?_
    refine lv_iconst (v := 0) hx hb dX5_set_11 (by decide) ?_
    refine lv_iload_n hx hb dX5_set_12 rfl (lv_at hl 1 rfl) ?_
    refine lv_iconst (v := 5) hx hb dX5_set_13 (by decide) ?_
    refine lv_icmp_lt (tgt := 27) hx hb dX5_set_14 (by decide) (fun c_3 => ?_) (fun c_3 => ?_)
    · replace hf := pI_t c_3 hf
      exact wkX5_set_b27 C0 _ _ _ _ _ _ H locs ls hf hP hD hS (lv_sub hl [0, 1, 2] rfl)
    · replace hf := pI_f c_3 hf
      refine lv_iload_n hx hb dX5_set_17 rfl (lv_at hl 1 rfl) ?_
      refine lv_bipush (v := 8) hx hb dX5_set_18 (by decide) ?_
      refine lv_icmp_gt (tgt := 27) hx hb dX5_set_20 (by decide) (fun c_4 => ?_) (fun c_4 => ?_)
      · replace hf := pI_t c_4 hf
        exact wkX5_set_b27 C0 _ _ _ _ _ _ H locs ls hf hP hD hS (lv_sub hl [0, 1, 2] rfl)
      · replace hf := pI_f c_4 hf
        refine lv_iconst (v := 1) hx hb dX5_set_23 (by decide) ?_
        refine lv_goto (tgt := 30) hx hb dX5_set_24 (by decide) ?_
        exact wkX5_set_b30 C0 _ _ _ _ _ _ _ H locs ls hf hP hD hS (lv_sub hl [0, 1, 2] rfl)
theorem ctX5_set (l : Launch) (D : va_G) (cI : ClassId) (a0 a1 a2 a3 a4 a5 a6 a7 a8 a9 a10 a11 a12 a13 : Nat) (u : TM) (x1 : Int32) (x2 : Int32) (z : TM) (hz : fX5_set u x1 x2 = some z) : CtV l yX5_set wsX5_set rmX5_set D vwCl [(cI, .int)] [.ref a0, .int x1, .int x2] (wM a0 a1 a2 a3 a4 a5 a6 a7 a8 a9 a10 a11 a12 a13 cI u) (wM a0 a1 a2 a3 a4 a5 a6 a7 a8 a9 a10 a11 a12 a13 cI z) :=
  ctV_of (cc := cX5_set) (maxL := 4) (ret := none) (by decide) rfl (Nat.le_of_ble_eq_true rfl) (fun p e s m below meth c A ls C hl hP hD hS => wkX5_set C z _ _ _ s.heap [] ls hz hP hD hS hl)
abbrev rmX5_get : Room := { frames := 1, cells := 0, slots := 0, locals := 22 }
theorem inX5_get_X5 : ∀ w ∈ wsX50, w ∈ wsX5_get := by decide +kernel
set_option maxRecDepth 100000 in
set_option maxHeartbeats 4000000 in
theorem wkX5_get_b16 {p : Program} {l : Launch} {e : Env} {s : State} {m : MethodId} {args : Array Value} {below : List Frame} {meth : Method} {c : Code} {D : va_G} {cI : ClassId} {A : Nat → Prop} {a0 a1 a2 a3 a4 a5 a6 a7 a8 a9 a10 a11 a12 a13 : Nat} (C : cxt p s m args meth c cX5_get (some .int) 2 RX5 wsX5_get D vwCl [(cI, .int)] A) : ∀ (z : Int32 × TM) (u : TM) (x1 : Int32) (y0 : Int32) (H : Heap) (locs : List Loc) (ls : Array Slot), fX5_get_b16 u x1 y0 = some z → va_P D vwCl (wM a0 a1 a2 a3 a4 a5 a6 a7 a8 a9 a10 a11 a12 a13 cI u) H → va_D A (wM a0 a1 a2 a3 a4 a5 a6 a7 a8 a9 a10 a11 a12 a13 cI u) → va_S A s.heap H locs → lv_has ls 2 [(0, .ref a0), (1, .int x1)] → W p l e rmX5_get s m args below meth c H locs 0 0 (MQ below (oI D vwCl [(cI, .int)] A z.1 (wM a0 a1 a2 a3 a4 a5 a6 a7 a8 a9 a10 a11 a12 a13 cI z.2)) args s 0 0 A) (F0 m 16 ls [.int y0, .ref a0]) := by
  have C0 := C
  obtain ⟨hx, hb, hr, hml, hown, hts, hlocks, hK, hA⟩ := C
  intro z u x1 y0 H locs ls hf hP hD hS hl
  unfold fX5_get_b16 at hf
  obtain ⟨z_1, hz_1, hf⟩ := pLet_out hf
  refine gI (w' := (wM a0 a1 a2 a3 a4 a5 a6 a7 a8 a9 a10 a11 a12 a13 cI z_1.2)) (va_runV (As := [.int y0]) (rest := []) ⟨hx, hb, hml, hown, hts⟩ (ctX5_refused l D cI a0 a1 a2 a3 a4 a5 a6 a7 a8 a9 a10 a11 a12 a13 u y0 z_1 hz_1.symm H.size) (cwV 1 hts gX5_get_X5_refused rfl rfl rfl (by decide +kernel) ⟨Nat.le_of_ble_eq_true rfl, Nat.le_of_ble_eq_true rfl⟩) (gPreV (ci := 4) (C := RX5) (T := TX5) (N := 27) hP hK hD [0, 1, 2, 3, 4, 5, 6, 7, 8, 9, 10, 11, 12, 13] (by decide) rfl 0 rfl rfl) rfl rfl hl.1 rfl (lv_room (Nat.le_of_ble_eq_true rfl)) dX5_get_16 ⟨Nat.le_of_ble_eq_true rfl, Nat.le_of_ble_eq_true rfl⟩) hP hD hS hA [0, 1, 2, 3, 4, 5, 6, 7, 8, 9, 10, 11, 12, 13] [] [0, 1, 2, 3, 4, 5, 6, 7, 8, 9, 10, 11, 12, 13] rfl rfl (by decide) (by decide) rfl (by decide) (fun H locs hP hD hS => ?_)
  refine lv_if_eq (tgt := 24) hx hb dX5_get_19 (by decide) (fun c_2 => ?_) (fun c_2 => ?_)
  · replace hf := pI_t c_2 hf
    refine lv_aload_n hx hb dX5_get_24 rfl (lv_at hl 0 rfl) ?_
    refine va_get (D := D) (ci := 4) (v := .ref a2) (C := RX5) (T := TX5) (N := 27) hx hb hts inX5_get_X5 hown hK hP 0 rfl rfl 2 (by decide) (hts (.fieldLink RX5 13 "BlockCacheModel" "reg" "[I") (by decide +kernel)) (fun _ h9 => h9) rfl dX5_get_25 ?_
    refine lv_iload_n hx hb dX5_get_28 rfl (lv_at hl 1 rfl) ?_
    obtain ⟨h_3, hf⟩ := pIn_out hf
    refine va_iald hx hb hK hP 2 0 rfl rfl h_3 dX5_get_29 ?_
    have hz := Option.some.inj hf
    subst hz
    exact gRetI hx hb hr hlocks hK hP hD hS rfl rfl dX5_get_30
  · replace hf := pI_f c_2 hf
    refine lv_iconst (v := 0) hx hb dX5_get_22 (by decide) ?_
    have hz := Option.some.inj hf
    subst hz
    exact gRetI hx hb hr hlocks hK hP hD hS rfl rfl dX5_get_23
set_option maxRecDepth 100000 in
set_option maxHeartbeats 4000000 in
theorem wkX5_get {p : Program} {l : Launch} {e : Env} {s : State} {m : MethodId} {args : Array Value} {below : List Frame} {meth : Method} {c : Code} {D : va_G} {cI : ClassId} {A : Nat → Prop} {a0 a1 a2 a3 a4 a5 a6 a7 a8 a9 a10 a11 a12 a13 : Nat} (C : cxt p s m args meth c cX5_get (some .int) 2 RX5 wsX5_get D vwCl [(cI, .int)] A) : ∀ (z : Int32 × TM) (u : TM) (x1 : Int32) (H : Heap) (locs : List Loc) (ls : Array Slot), fX5_get u x1 = some z → va_P D vwCl (wM a0 a1 a2 a3 a4 a5 a6 a7 a8 a9 a10 a11 a12 a13 cI u) H → va_D A (wM a0 a1 a2 a3 a4 a5 a6 a7 a8 a9 a10 a11 a12 a13 cI u) → va_S A s.heap H locs → lv_has ls 2 [(0, .ref a0), (1, .int x1)] → W p l e rmX5_get s m args below meth c H locs 0 0 (MQ below (oI D vwCl [(cI, .int)] A z.1 (wM a0 a1 a2 a3 a4 a5 a6 a7 a8 a9 a10 a11 a12 a13 cI z.2)) args s 0 0 A) (F0 m 0 ls []) := by
  have C0 := C
  obtain ⟨hx, hb, hr, hml, hown, hts, hlocks, hK, hA⟩ := C
  intro z u x1 H locs ls hf hP hD hS hl
  unfold fX5_get at hf
  refine lv_aload_n hx hb dX5_get_0 rfl (lv_at hl 0 rfl) ?_
  refine lv_iload_n hx hb dX5_get_1 rfl (lv_at hl 1 rfl) ?_
  refine lv_iconst (v := 0) hx hb dX5_get_2 (by decide) ?_
  refine lv_bipush (v := 9) hx hb dX5_get_3 (by decide) ?_
  obtain ⟨z_1, hz_1, hf⟩ := pLet_out hf
  refine gI0 (va_runS (As := [.int x1, .int 0, .int 9]) (rest := [.ref a0]) ⟨hx, hb, hml, hown, hts⟩ (ctX5_isIn l D cI x1 0 9 z_1 hz_1.symm H.size) (va_cwS 3 hts gX5_get_X5_isIn rfl rfl rfl (by decide +kernel) ⟨Nat.le_of_ble_eq_true rfl, Nat.le_of_ble_eq_true rfl⟩) (gPreS hP hK hD [] (by decide) rfl) rfl rfl hl.1 rfl (lv_room (Nat.le_of_ble_eq_true rfl)) dX5_get_5 ⟨Nat.le_of_ble_eq_true rfl, Nat.le_of_ble_eq_true rfl⟩) hP hD hS hA (fun H locs hP hS => ?_)
  refine lv_if_eq (tgt := 15) hx hb dX5_get_8 (by decide) (fun c_2 => ?_) (fun c_2 => ?_)
  · replace hf := pI_t c_2 hf
    refine lv_iconst (v := 1) hx hb dX5_get_15 (by decide) ?_
    exact wkX5_get_b16 C0 _ _ _ _ H locs ls hf hP hD hS (lv_sub hl [0, 1] rfl)
  · replace hf := pI_f c_2 hf
    refine lv_iconst (v := 0) hx hb dX5_get_11 (by decide) ?_
    refine lv_goto (tgt := 16) hx hb dX5_get_12 (by decide) ?_
    exact wkX5_get_b16 C0 _ _ _ _ H locs ls hf hP hD hS (lv_sub hl [0, 1] rfl)
theorem ctX5_get (l : Launch) (D : va_G) (cI : ClassId) (a0 a1 a2 a3 a4 a5 a6 a7 a8 a9 a10 a11 a12 a13 : Nat) (u : TM) (x1 : Int32) (z : Int32 × TM) (hz : fX5_get u x1 = some z) : CtI l yX5_get wsX5_get rmX5_get D vwCl [(cI, .int)] [.ref a0, .int x1] (wM a0 a1 a2 a3 a4 a5 a6 a7 a8 a9 a10 a11 a12 a13 cI u) z.1 (wM a0 a1 a2 a3 a4 a5 a6 a7 a8 a9 a10 a11 a12 a13 cI z.2) :=
  ctI_of (cc := cX5_get) (maxL := 2) (ret := (some .int)) (by decide) rfl (Nat.le_of_ble_eq_true rfl) (fun p e s m below meth c A ls C hl hP hD hS => wkX5_get C z _ _ s.heap [] ls hz hP hD hS hl)
abbrev rmX5_input : Room := { frames := 1, cells := 0, slots := 0, locals := 22 }
theorem inX5_input_X5 : ∀ w ∈ wsX50, w ∈ wsX5_input := by decide +kernel
set_option maxRecDepth 100000 in
set_option maxHeartbeats 4000000 in
theorem wkX5_input_b30 {p : Program} {l : Launch} {e : Env} {s : State} {m : MethodId} {args : Array Value} {below : List Frame} {meth : Method} {c : Code} {D : va_G} {cI : ClassId} {A : Nat → Prop} {a0 a1 a2 a3 a4 a5 a6 a7 a8 a9 a10 a11 a12 a13 : Nat} (C : cxt p s m args meth c cX5_input (some .int) 2 RX5 wsX5_input D vwCl [(cI, .int)] A) : ∀ (z : Int32 × TM) (u : TM) (x1 : Int32) (y0 : Int32) (H : Heap) (locs : List Loc) (ls : Array Slot), fX5_input_b30 u x1 y0 = some z → va_P D vwCl (wM a0 a1 a2 a3 a4 a5 a6 a7 a8 a9 a10 a11 a12 a13 cI u) H → va_D A (wM a0 a1 a2 a3 a4 a5 a6 a7 a8 a9 a10 a11 a12 a13 cI u) → va_S A s.heap H locs → lv_has ls 2 [(0, .ref a0), (1, .int x1)] → W p l e rmX5_input s m args below meth c H locs 0 0 (MQ below (oI D vwCl [(cI, .int)] A z.1 (wM a0 a1 a2 a3 a4 a5 a6 a7 a8 a9 a10 a11 a12 a13 cI z.2)) args s 0 0 A) (F0 m 30 ls [.int y0, .ref a0]) := by
  have C0 := C
  obtain ⟨hx, hb, hr, hml, hown, hts, hlocks, hK, hA⟩ := C
  intro z u x1 y0 H locs ls hf hP hD hS hl
  unfold fX5_input_b30 at hf
  obtain ⟨z_1, hz_1, hf⟩ := pLet_out hf
  refine gI (w' := (wM a0 a1 a2 a3 a4 a5 a6 a7 a8 a9 a10 a11 a12 a13 cI z_1.2)) (va_runV (As := [.int y0]) (rest := []) ⟨hx, hb, hml, hown, hts⟩ (ctX5_refused l D cI a0 a1 a2 a3 a4 a5 a6 a7 a8 a9 a10 a11 a12 a13 u y0 z_1 hz_1.symm H.size) (cwV 1 hts gX5_input_X5_refused rfl rfl rfl (by decide +kernel) ⟨Nat.le_of_ble_eq_true rfl, Nat.le_of_ble_eq_true rfl⟩) (gPreV (ci := 4) (C := RX5) (T := TX5) (N := 27) hP hK hD [0, 1, 2, 3, 4, 5, 6, 7, 8, 9, 10, 11, 12, 13] (by decide) rfl 0 rfl rfl) rfl rfl hl.1 rfl (lv_room (Nat.le_of_ble_eq_true rfl)) dX5_input_30 ⟨Nat.le_of_ble_eq_true rfl, Nat.le_of_ble_eq_true rfl⟩) hP hD hS hA [0, 1, 2, 3, 4, 5, 6, 7, 8, 9, 10, 11, 12, 13] [] [0, 1, 2, 3, 4, 5, 6, 7, 8, 9, 10, 11, 12, 13] rfl rfl (by decide) (by decide) rfl (by decide) (fun H locs hP hD hS => ?_)
  refine lv_if_eq (tgt := 38) hx hb dX5_input_33 (by decide) (fun c_2 => ?_) (fun c_2 => ?_)
  · replace hf := pI_t c_2 hf
    refine lv_aload_n hx hb dX5_input_38 rfl (lv_at hl 0 rfl) ?_
    refine va_get (D := D) (ci := 4) (v := .ref a3) (C := RX5) (T := TX5) (N := 27) hx hb hts inX5_input_X5 hown hK hP 0 rfl rfl 3 (by decide) (hts (.fieldLink RX5 16 "BlockCacheModel" "inputs" "[I") (by decide +kernel)) (fun _ h9 => h9) rfl dX5_input_39 ?_
    refine lv_aload_n hx hb dX5_input_42 rfl (lv_at hl 0 rfl) ?_
    refine va_get (D := D) (ci := 4) (v := .int (gM_inputMany z_1.2)) (C := RX5) (T := TX5) (N := 27) hx hb hts inX5_input_X5 hown hK hP 0 rfl rfl 4 (by decide) (hts (.fieldLink RX5 159 "BlockCacheModel" "inputMany" "I") (by decide +kernel)) (fun _ h9 => h9) rfl dX5_input_43 ?_
    refine lv_iload_n hx hb dX5_input_46 rfl (lv_at hl 1 rfl) ?_
    obtain ⟨h_3, hf⟩ := pIn_out hf
    refine va_iast hx hb hK hP hD hS 3 0 rfl rfl h_3 dX5_input_47 (fun H locs hP hD hS => ?_)
    obtain ⟨u_4, eu_4, hf⟩ := pLet_out hf
    replace hP : va_P D vwCl (wM a0 a1 a2 a3 a4 a5 a6 a7 a8 a9 a10 a11 a12 a13 cI u_4) H := by rw [eu_4]; exact hP
    replace hD : va_D A (wM a0 a1 a2 a3 a4 a5 a6 a7 a8 a9 a10 a11 a12 a13 cI u_4) := by rw [eu_4]; exact hD
    refine lv_aload_n hx hb dX5_input_48 rfl (lv_at hl 0 rfl) ?_
    refine lv_dup hx hb dX5_input_49 rfl ?_
    refine va_get (D := D) (ci := 4) (v := .int (gM_inputMany u_4)) (C := RX5) (T := TX5) (N := 27) hx hb hts inX5_input_X5 hown hK hP 0 rfl rfl 4 (by decide) (hts (.fieldLink RX5 159 "BlockCacheModel" "inputMany" "I") (by decide +kernel)) (fun _ h9 => h9) rfl dX5_input_50 ?_
    refine lv_iconst (v := 1) hx hb dX5_input_53 (by decide) ?_
    refine lv_iadd hx hb dX5_input_54 ?_
    refine va_put (D := D) (ci := 4) (v := .int ((gM_inputMany u_4) + 1)) (ty := .int) (C := RX5) (T := TX5) (N := 27) hx hb hts inX5_input_X5 tyX5 tyX5_ok nmX5 hown hK hP hD hS 0 rfl rfl 4 (by decide) (hts (.fieldLink RX5 159 "BlockCacheModel" "inputMany" "I") (by decide +kernel)) (fun _ h9 => h9) rfl (by decide +kernel) rfl rfl (Nat.le_of_ble_eq_true rfl) dX5_input_55 (fun H locs hP hD hS => ?_)
    obtain ⟨u_5, eu_5, hf⟩ := pLet_out hf
    replace hP : va_P D vwCl (wM a0 a1 a2 a3 a4 a5 a6 a7 a8 a9 a10 a11 a12 a13 cI u_5) H := by rw [eu_5]; exact hP
    replace hD : va_D A (wM a0 a1 a2 a3 a4 a5 a6 a7 a8 a9 a10 a11 a12 a13 cI u_5) := by rw [eu_5]; exact hD
    refine lv_aload_n hx hb dX5_input_58 rfl (lv_at hl 0 rfl) ?_
    refine va_get (D := D) (ci := 4) (v := .int (gM_inputMany u_5)) (C := RX5) (T := TX5) (N := 27) hx hb hts inX5_input_X5 hown hK hP 0 rfl rfl 4 (by decide) (hts (.fieldLink RX5 159 "BlockCacheModel" "inputMany" "I") (by decide +kernel)) (fun _ h9 => h9) rfl dX5_input_59 ?_
    have hz := Option.some.inj hf
    subst hz
    exact gRetI hx hb hr hlocks hK hP hD hS rfl rfl dX5_input_62
  · replace hf := pI_f c_2 hf
    refine lv_iconst (v := 0) hx hb dX5_input_36 (by decide) ?_
    have hz := Option.some.inj hf
    subst hz
    exact gRetI hx hb hr hlocks hK hP hD hS rfl rfl dX5_input_37
set_option maxRecDepth 100000 in
set_option maxHeartbeats 4000000 in
theorem wkX5_input {p : Program} {l : Launch} {e : Env} {s : State} {m : MethodId} {args : Array Value} {below : List Frame} {meth : Method} {c : Code} {D : va_G} {cI : ClassId} {A : Nat → Prop} {a0 a1 a2 a3 a4 a5 a6 a7 a8 a9 a10 a11 a12 a13 : Nat} (C : cxt p s m args meth c cX5_input (some .int) 2 RX5 wsX5_input D vwCl [(cI, .int)] A) : ∀ (z : Int32 × TM) (u : TM) (x1 : Int32) (H : Heap) (locs : List Loc) (ls : Array Slot), fX5_input u x1 = some z → va_P D vwCl (wM a0 a1 a2 a3 a4 a5 a6 a7 a8 a9 a10 a11 a12 a13 cI u) H → va_D A (wM a0 a1 a2 a3 a4 a5 a6 a7 a8 a9 a10 a11 a12 a13 cI u) → va_S A s.heap H locs → lv_has ls 2 [(0, .ref a0), (1, .int x1)] → W p l e rmX5_input s m args below meth c H locs 0 0 (MQ below (oI D vwCl [(cI, .int)] A z.1 (wM a0 a1 a2 a3 a4 a5 a6 a7 a8 a9 a10 a11 a12 a13 cI z.2)) args s 0 0 A) (F0 m 0 ls []) := by
  have C0 := C
  obtain ⟨hx, hb, hr, hml, hown, hts, hlocks, hK, hA⟩ := C
  intro z u x1 H locs ls hf hP hD hS hl
  unfold fX5_input at hf
  refine lv_aload_n hx hb dX5_input_0 rfl (lv_at hl 0 rfl) ?_
  refine lv_iload_n hx hb dX5_input_1 rfl (lv_at hl 1 rfl) ?_
  refine lv_iconst (v := 0) hx hb dX5_input_2 (by decide) ?_
  refine lv_sipush (v := 255) hx hb dX5_input_3 (by decide) ?_
  obtain ⟨z_1, hz_1, hf⟩ := pLet_out hf
  refine gI0 (va_runS (As := [.int x1, .int 0, .int 255]) (rest := [.ref a0]) ⟨hx, hb, hml, hown, hts⟩ (ctX5_isIn l D cI x1 0 255 z_1 hz_1.symm H.size) (va_cwS 3 hts gX5_input_X5_isIn rfl rfl rfl (by decide +kernel) ⟨Nat.le_of_ble_eq_true rfl, Nat.le_of_ble_eq_true rfl⟩) (gPreS hP hK hD [] (by decide) rfl) rfl rfl hl.1 rfl (lv_room (Nat.le_of_ble_eq_true rfl)) dX5_input_6 ⟨Nat.le_of_ble_eq_true rfl, Nat.le_of_ble_eq_true rfl⟩) hP hD hS hA (fun H locs hP hS => ?_)
  refine lv_if_ne (tgt := 16) hx hb dX5_input_9 (by decide) (fun c_2 => ?_) (fun c_2 => ?_)
  · replace hf := pI_f c_2 hf
    refine lv_aload_n hx hb dX5_input_16 rfl (lv_at hl 0 rfl) ?_
    refine va_get (D := D) (ci := 4) (v := .int (gM_inputMany u)) (C := RX5) (T := TX5) (N := 27) hx hb hts inX5_input_X5 hown hK hP 0 rfl rfl 4 (by decide) (hts (.fieldLink RX5 159 "BlockCacheModel" "inputMany" "I") (by decide +kernel)) (fun _ h9 => h9) rfl dX5_input_17 ?_
    refine lv_bipush (v := 32) hx hb dX5_input_20 (by decide) ?_
    refine lv_icmp_ne (tgt := 29) hx hb dX5_input_22 (by decide) (fun c_3 => ?_) (fun c_3 => ?_)
    · replace hf := pI_f c_3 hf
      refine lv_iconst (v := 0) hx hb dX5_input_29 (by decide) ?_
      exact wkX5_input_b30 C0 _ _ _ _ H locs ls hf hP hD hS (lv_sub hl [0, 1] rfl)
    · replace hf := pI_t c_3 hf
      refine lv_iconst (v := 2) hx hb dX5_input_25 (by decide) ?_
      refine lv_goto (tgt := 30) hx hb dX5_input_26 (by decide) ?_
      exact wkX5_input_b30 C0 _ _ _ _ H locs ls hf hP hD hS (lv_sub hl [0, 1] rfl)
  · replace hf := pI_t c_2 hf
    refine lv_iconst (v := 1) hx hb dX5_input_12 (by decide) ?_
    refine lv_goto (tgt := 30) hx hb dX5_input_13 (by decide) ?_
    exact wkX5_input_b30 C0 _ _ _ _ H locs ls hf hP hD hS (lv_sub hl [0, 1] rfl)
theorem ctX5_input (l : Launch) (D : va_G) (cI : ClassId) (a0 a1 a2 a3 a4 a5 a6 a7 a8 a9 a10 a11 a12 a13 : Nat) (u : TM) (x1 : Int32) (z : Int32 × TM) (hz : fX5_input u x1 = some z) : CtI l yX5_input wsX5_input rmX5_input D vwCl [(cI, .int)] [.ref a0, .int x1] (wM a0 a1 a2 a3 a4 a5 a6 a7 a8 a9 a10 a11 a12 a13 cI u) z.1 (wM a0 a1 a2 a3 a4 a5 a6 a7 a8 a9 a10 a11 a12 a13 cI z.2) :=
  ctI_of (cc := cX5_input) (maxL := 2) (ret := (some .int)) (by decide) rfl (Nat.le_of_ble_eq_true rfl) (fun p e s m below meth c A ls C hl hP hD hS => wkX5_input C z _ _ s.heap [] ls hz hP hD hS hl)
abbrev rmX5_request : Room := { frames := 1, cells := 0, slots := 0, locals := 21 }
theorem inX5_request_X5 : ∀ w ∈ wsX50, w ∈ wsX5_request := by decide +kernel
set_option maxRecDepth 100000 in
set_option maxHeartbeats 4000000 in
theorem wkX5_request_b37 {p : Program} {l : Launch} {e : Env} {s : State} {m : MethodId} {args : Array Value} {below : List Frame} {meth : Method} {c : Code} {D : va_G} {cI : ClassId} {A : Nat → Prop} {a0 a1 a2 a3 a4 a5 a6 a7 a8 a9 a10 a11 a12 a13 : Nat} (C : cxt p s m args meth c cX5_request (some .int) 2 RX5 wsX5_request D vwCl [(cI, .int)] A) : ∀ (z : Int32 × TM) (u : TM) (x1 : Int32) (y0 : Int32) (H : Heap) (locs : List Loc) (ls : Array Slot), fX5_request_b37 u x1 y0 = some z → va_P D vwCl (wM a0 a1 a2 a3 a4 a5 a6 a7 a8 a9 a10 a11 a12 a13 cI u) H → va_D A (wM a0 a1 a2 a3 a4 a5 a6 a7 a8 a9 a10 a11 a12 a13 cI u) → va_S A s.heap H locs → lv_has ls 2 [(0, .ref a0), (1, .int x1)] → W p l e rmX5_request s m args below meth c H locs 0 0 (MQ below (oI D vwCl [(cI, .int)] A z.1 (wM a0 a1 a2 a3 a4 a5 a6 a7 a8 a9 a10 a11 a12 a13 cI z.2)) args s 0 0 A) (F0 m 37 ls [.int y0, .ref a0]) := by
  have C0 := C
  obtain ⟨hx, hb, hr, hml, hown, hts, hlocks, hK, hA⟩ := C
  intro z u x1 y0 H locs ls hf hP hD hS hl
  unfold fX5_request_b37 at hf
  obtain ⟨z_1, hz_1, hf⟩ := pLet_out hf
  refine gI (w' := (wM a0 a1 a2 a3 a4 a5 a6 a7 a8 a9 a10 a11 a12 a13 cI z_1.2)) (va_runV (As := [.int y0]) (rest := []) ⟨hx, hb, hml, hown, hts⟩ (ctX5_refused l D cI a0 a1 a2 a3 a4 a5 a6 a7 a8 a9 a10 a11 a12 a13 u y0 z_1 hz_1.symm H.size) (cwV 1 hts gX5_request_X5_refused rfl rfl rfl (by decide +kernel) ⟨Nat.le_of_ble_eq_true rfl, Nat.le_of_ble_eq_true rfl⟩) (gPreV (ci := 4) (C := RX5) (T := TX5) (N := 27) hP hK hD [0, 1, 2, 3, 4, 5, 6, 7, 8, 9, 10, 11, 12, 13] (by decide) rfl 0 rfl rfl) rfl rfl hl.1 rfl (lv_room (Nat.le_of_ble_eq_true rfl)) dX5_request_37 ⟨Nat.le_of_ble_eq_true rfl, Nat.le_of_ble_eq_true rfl⟩) hP hD hS hA [0, 1, 2, 3, 4, 5, 6, 7, 8, 9, 10, 11, 12, 13] [] [0, 1, 2, 3, 4, 5, 6, 7, 8, 9, 10, 11, 12, 13] rfl rfl (by decide) (by decide) rfl (by decide) (fun H locs hP hD hS => ?_)
  refine lv_if_eq (tgt := 45) hx hb dX5_request_40 (by decide) (fun c_2 => ?_) (fun c_2 => ?_)
  · replace hf := pI_t c_2 hf
    refine lv_aload_n hx hb dX5_request_45 rfl (lv_at hl 0 rfl) ?_
    refine va_get (D := D) (ci := 4) (v := .ref a4) (C := RX5) (T := TX5) (N := 27) hx hb hts inX5_request_X5 hown hK hP 0 rfl rfl 5 (by decide) (hts (.fieldLink RX5 19 "BlockCacheModel" "requests" "[I") (by decide +kernel)) (fun _ h9 => h9) rfl dX5_request_46 ?_
    refine lv_aload_n hx hb dX5_request_49 rfl (lv_at hl 0 rfl) ?_
    refine va_get (D := D) (ci := 4) (v := .int (gM_requestMany z_1.2)) (C := RX5) (T := TX5) (N := 27) hx hb hts inX5_request_X5 hown hK hP 0 rfl rfl 6 (by decide) (hts (.fieldLink RX5 162 "BlockCacheModel" "requestMany" "I") (by decide +kernel)) (fun _ h9 => h9) rfl dX5_request_50 ?_
    refine lv_iload_n hx hb dX5_request_53 rfl (lv_at hl 1 rfl) ?_
    obtain ⟨h_3, hf⟩ := pIn_out hf
    refine va_iast hx hb hK hP hD hS 4 0 rfl rfl h_3 dX5_request_54 (fun H locs hP hD hS => ?_)
    obtain ⟨u_4, eu_4, hf⟩ := pLet_out hf
    replace hP : va_P D vwCl (wM a0 a1 a2 a3 a4 a5 a6 a7 a8 a9 a10 a11 a12 a13 cI u_4) H := by rw [eu_4]; exact hP
    replace hD : va_D A (wM a0 a1 a2 a3 a4 a5 a6 a7 a8 a9 a10 a11 a12 a13 cI u_4) := by rw [eu_4]; exact hD
    refine lv_aload_n hx hb dX5_request_55 rfl (lv_at hl 0 rfl) ?_
    refine lv_dup hx hb dX5_request_56 rfl ?_
    refine va_get (D := D) (ci := 4) (v := .int (gM_requestMany u_4)) (C := RX5) (T := TX5) (N := 27) hx hb hts inX5_request_X5 hown hK hP 0 rfl rfl 6 (by decide) (hts (.fieldLink RX5 162 "BlockCacheModel" "requestMany" "I") (by decide +kernel)) (fun _ h9 => h9) rfl dX5_request_57 ?_
    refine lv_iconst (v := 1) hx hb dX5_request_60 (by decide) ?_
    refine lv_iadd hx hb dX5_request_61 ?_
    refine va_put (D := D) (ci := 4) (v := .int ((gM_requestMany u_4) + 1)) (ty := .int) (C := RX5) (T := TX5) (N := 27) hx hb hts inX5_request_X5 tyX5 tyX5_ok nmX5 hown hK hP hD hS 0 rfl rfl 6 (by decide) (hts (.fieldLink RX5 162 "BlockCacheModel" "requestMany" "I") (by decide +kernel)) (fun _ h9 => h9) rfl (by decide +kernel) rfl rfl (Nat.le_of_ble_eq_true rfl) dX5_request_62 (fun H locs hP hD hS => ?_)
    obtain ⟨u_5, eu_5, hf⟩ := pLet_out hf
    replace hP : va_P D vwCl (wM a0 a1 a2 a3 a4 a5 a6 a7 a8 a9 a10 a11 a12 a13 cI u_5) H := by rw [eu_5]; exact hP
    replace hD : va_D A (wM a0 a1 a2 a3 a4 a5 a6 a7 a8 a9 a10 a11 a12 a13 cI u_5) := by rw [eu_5]; exact hD
    refine lv_aload_n hx hb dX5_request_65 rfl (lv_at hl 0 rfl) ?_
    refine lv_iload_n hx hb dX5_request_66 rfl (lv_at hl 1 rfl) ?_
    refine va_put (D := D) (ci := 4) (v := .int x1) (ty := .int) (C := RX5) (T := TX5) (N := 27) hx hb hts inX5_request_X5 tyX5 tyX5_ok nmX5 hown hK hP hD hS 0 rfl rfl 7 (by decide) (hts (.fieldLink RX5 22 "BlockCacheModel" "lastRequest" "I") (by decide +kernel)) (fun _ h9 => h9) rfl (by decide +kernel) rfl rfl (Nat.le_of_ble_eq_true rfl) dX5_request_67 (fun H locs hP hD hS => ?_)
    obtain ⟨u_6, eu_6, hf⟩ := pLet_out hf
    replace hP : va_P D vwCl (wM a0 a1 a2 a3 a4 a5 a6 a7 a8 a9 a10 a11 a12 a13 cI u_6) H := by rw [eu_6]; exact hP
    replace hD : va_D A (wM a0 a1 a2 a3 a4 a5 a6 a7 a8 a9 a10 a11 a12 a13 cI u_6) := by rw [eu_6]; exact hD
    refine lv_aload_n hx hb dX5_request_70 rfl (lv_at hl 0 rfl) ?_
    refine va_get (D := D) (ci := 4) (v := .int (gM_requestMany u_6)) (C := RX5) (T := TX5) (N := 27) hx hb hts inX5_request_X5 hown hK hP 0 rfl rfl 6 (by decide) (hts (.fieldLink RX5 162 "BlockCacheModel" "requestMany" "I") (by decide +kernel)) (fun _ h9 => h9) rfl dX5_request_71 ?_
    have hz := Option.some.inj hf
    subst hz
    exact gRetI hx hb hr hlocks hK hP hD hS rfl rfl dX5_request_74
  · replace hf := pI_f c_2 hf
    refine lv_iconst (v := 0) hx hb dX5_request_43 (by decide) ?_
    have hz := Option.some.inj hf
    subst hz
    exact gRetI hx hb hr hlocks hK hP hD hS rfl rfl dX5_request_44
set_option maxRecDepth 100000 in
set_option maxHeartbeats 4000000 in
theorem wkX5_request_b19 {p : Program} {l : Launch} {e : Env} {s : State} {m : MethodId} {args : Array Value} {below : List Frame} {meth : Method} {c : Code} {D : va_G} {cI : ClassId} {A : Nat → Prop} {a0 a1 a2 a3 a4 a5 a6 a7 a8 a9 a10 a11 a12 a13 : Nat} (C : cxt p s m args meth c cX5_request (some .int) 2 RX5 wsX5_request D vwCl [(cI, .int)] A) : ∀ (z : Int32 × TM) (u : TM) (x1 : Int32) (H : Heap) (locs : List Loc) (ls : Array Slot), fX5_request_b19 u x1 = some z → va_P D vwCl (wM a0 a1 a2 a3 a4 a5 a6 a7 a8 a9 a10 a11 a12 a13 cI u) H → va_D A (wM a0 a1 a2 a3 a4 a5 a6 a7 a8 a9 a10 a11 a12 a13 cI u) → va_S A s.heap H locs → lv_has ls 2 [(0, .ref a0), (1, .int x1)] → W p l e rmX5_request s m args below meth c H locs 0 0 (MQ below (oI D vwCl [(cI, .int)] A z.1 (wM a0 a1 a2 a3 a4 a5 a6 a7 a8 a9 a10 a11 a12 a13 cI z.2)) args s 0 0 A) (F0 m 19 ls [.ref a0]) := by
  have C0 := C
  obtain ⟨hx, hb, hr, hml, hown, hts, hlocks, hK, hA⟩ := C
  intro z u x1 H locs ls hf hP hD hS hl
  unfold fX5_request_b19 at hf
  refine lv_iconst (v := 1) hx hb dX5_request_19 (by decide) ?_
  refine lv_goto (tgt := 37) hx hb dX5_request_20 (by decide) ?_
  exact wkX5_request_b37 C0 _ _ _ _ H locs ls hf hP hD hS (lv_sub hl [0, 1] rfl)
set_option maxRecDepth 100000 in
set_option maxHeartbeats 4000000 in
theorem wkX5_request {p : Program} {l : Launch} {e : Env} {s : State} {m : MethodId} {args : Array Value} {below : List Frame} {meth : Method} {c : Code} {D : va_G} {cI : ClassId} {A : Nat → Prop} {a0 a1 a2 a3 a4 a5 a6 a7 a8 a9 a10 a11 a12 a13 : Nat} (C : cxt p s m args meth c cX5_request (some .int) 2 RX5 wsX5_request D vwCl [(cI, .int)] A) : ∀ (z : Int32 × TM) (u : TM) (x1 : Int32) (H : Heap) (locs : List Loc) (ls : Array Slot), fX5_request u x1 = some z → va_P D vwCl (wM a0 a1 a2 a3 a4 a5 a6 a7 a8 a9 a10 a11 a12 a13 cI u) H → va_D A (wM a0 a1 a2 a3 a4 a5 a6 a7 a8 a9 a10 a11 a12 a13 cI u) → va_S A s.heap H locs → lv_has ls 2 [(0, .ref a0), (1, .int x1)] → W p l e rmX5_request s m args below meth c H locs 0 0 (MQ below (oI D vwCl [(cI, .int)] A z.1 (wM a0 a1 a2 a3 a4 a5 a6 a7 a8 a9 a10 a11 a12 a13 cI z.2)) args s 0 0 A) (F0 m 0 ls []) := by
  have C0 := C
  obtain ⟨hx, hb, hr, hml, hown, hts, hlocks, hK, hA⟩ := C
  intro z u x1 H locs ls hf hP hD hS hl
  unfold fX5_request at hf
  refine lv_aload_n hx hb dX5_request_0 rfl (lv_at hl 0 rfl) ?_
  refine lv_iload_n hx hb dX5_request_1 rfl (lv_at hl 1 rfl) ?_
  refine lv_aload_n hx hb dX5_request_2 rfl (lv_at hl 0 rfl) ?_
  refine va_get (D := D) (ci := 4) (v := .int (gM_lastRequest u)) (C := RX5) (T := TX5) (N := 27) hx hb hts inX5_request_X5 hown hK hP 0 rfl rfl 7 (by decide) (hts (.fieldLink RX5 22 "BlockCacheModel" "lastRequest" "I") (by decide +kernel)) (fun _ h9 => h9) rfl dX5_request_3 ?_
  refine lv_icmp_le (tgt := 19) hx hb dX5_request_6 (by decide) (fun c_1 => ?_) (fun c_1 => ?_)
  · replace hf := pI_t c_1 hf
    exact wkX5_request_b19 C0 _ _ _ H locs ls hf hP hD hS (lv_sub hl [0, 1] rfl)
  · replace hf := pI_f c_1 hf
    refine lv_iload_n hx hb dX5_request_9 rfl (lv_at hl 1 rfl) ?_
    refine lv_aload_n hx hb dX5_request_10 rfl (lv_at hl 0 rfl) ?_
    refine va_get (D := D) (ci := 4) (v := .ref a12) (C := RX5) (T := TX5) (N := 27) hx hb hts inX5_request_X5 hown hK hP 0 rfl rfl 17 (by decide) (hts (.fieldLink RX5 50 "BlockCacheModel" "counts" "[I") (by decide +kernel)) (fun _ h9 => h9) rfl dX5_request_11 ?_
    refine lv_iconst (v := 0) hx hb dX5_request_14 (by decide) ?_
    obtain ⟨h_2, hf⟩ := pIn_out hf
    refine va_iald hx hb hK hP 12 0 rfl rfl h_2 dX5_request_15 ?_
    refine lv_icmp_ge (tgt := 23) hx hb dX5_request_16 (by decide) (fun c_3 => ?_) (fun c_3 => ?_)
    · replace hf := pI_t c_3 hf
      refine lv_aload_n hx hb dX5_request_23 rfl (lv_at hl 0 rfl) ?_
      refine va_get (D := D) (ci := 4) (v := .int (gM_requestMany u)) (C := RX5) (T := TX5) (N := 27) hx hb hts inX5_request_X5 hown hK hP 0 rfl rfl 6 (by decide) (hts (.fieldLink RX5 162 "BlockCacheModel" "requestMany" "I") (by decide +kernel)) (fun _ h9 => h9) rfl dX5_request_24 ?_
      refine lv_bipush (v := 16) hx hb dX5_request_27 (by decide) ?_
      refine lv_icmp_ne (tgt := 36) hx hb dX5_request_29 (by decide) (fun c_4 => ?_) (fun c_4 => ?_)
      · replace hf := pI_f c_4 hf
        refine lv_iconst (v := 0) hx hb dX5_request_36 (by decide) ?_
        exact wkX5_request_b37 C0 _ _ _ _ H locs ls hf hP hD hS (lv_sub hl [0, 1] rfl)
      · replace hf := pI_t c_4 hf
        refine lv_iconst (v := 2) hx hb dX5_request_32 (by decide) ?_
        refine lv_goto (tgt := 37) hx hb dX5_request_33 (by decide) ?_
        exact wkX5_request_b37 C0 _ _ _ _ H locs ls hf hP hD hS (lv_sub hl [0, 1] rfl)
    · replace hf := pI_f c_3 hf
      exact wkX5_request_b19 C0 _ _ _ H locs ls hf hP hD hS (lv_sub hl [0, 1] rfl)
theorem ctX5_request (l : Launch) (D : va_G) (cI : ClassId) (a0 a1 a2 a3 a4 a5 a6 a7 a8 a9 a10 a11 a12 a13 : Nat) (u : TM) (x1 : Int32) (z : Int32 × TM) (hz : fX5_request u x1 = some z) : CtI l yX5_request wsX5_request rmX5_request D vwCl [(cI, .int)] [.ref a0, .int x1] (wM a0 a1 a2 a3 a4 a5 a6 a7 a8 a9 a10 a11 a12 a13 cI u) z.1 (wM a0 a1 a2 a3 a4 a5 a6 a7 a8 a9 a10 a11 a12 a13 cI z.2) :=
  ctI_of (cc := cX5_request) (maxL := 2) (ret := (some .int)) (by decide) rfl (Nat.le_of_ble_eq_true rfl) (fun p e s m below meth c A ls C hl hP hD hS => wkX5_request C z _ _ s.heap [] ls hz hP hD hS hl)
abbrev rmX5_room : Room := { frames := 2, cells := 0, slots := 0, locals := 42 }
theorem inX5_room_X5 : ∀ w ∈ wsX50, w ∈ wsX5_room := by decide +kernel
set_option maxRecDepth 100000 in
set_option maxHeartbeats 4000000 in
theorem wkX5_room_b17 {p : Program} {l : Launch} {e : Env} {s : State} {m : MethodId} {args : Array Value} {below : List Frame} {meth : Method} {c : Code} {D : va_G} {cI : ClassId} {A : Nat → Prop} {a0 a1 a2 a3 a4 a5 a6 a7 a8 a9 a10 a11 a12 a13 : Nat} (C : cxt p s m args meth c cX5_room none 2 RX5 wsX5_room D vwCl [(cI, .int)] A) : ∀ (z : TM) (u : TM) (x1 : Int32) (y0 : Int32) (H : Heap) (locs : List Loc) (ls : Array Slot), fX5_room_b17 u x1 y0 = some z → va_P D vwCl (wM a0 a1 a2 a3 a4 a5 a6 a7 a8 a9 a10 a11 a12 a13 cI u) H → va_D A (wM a0 a1 a2 a3 a4 a5 a6 a7 a8 a9 a10 a11 a12 a13 cI u) → va_S A s.heap H locs → lv_has ls 2 [(0, .ref a0), (1, .int x1)] → W p l e rmX5_room s m args below meth c H locs 0 0 (MQ below (oV D vwCl [(cI, .int)] A (wM a0 a1 a2 a3 a4 a5 a6 a7 a8 a9 a10 a11 a12 a13 cI z)) args s 0 0 A) (F0 m 17 ls [.int y0, .ref a0]) := by
  have C0 := C
  obtain ⟨hx, hb, hr, hml, hown, hts, hlocks, hK, hA⟩ := C
  intro z u x1 y0 H locs ls hf hP hD hS hl
  unfold fX5_room_b17 at hf
  obtain ⟨z_1, hz_1, hf⟩ := pLet_out hf
  refine gI (w' := (wM a0 a1 a2 a3 a4 a5 a6 a7 a8 a9 a10 a11 a12 a13 cI z_1.2)) (va_runV (As := [.int y0]) (rest := []) ⟨hx, hb, hml, hown, hts⟩ (ctX5_refused l D cI a0 a1 a2 a3 a4 a5 a6 a7 a8 a9 a10 a11 a12 a13 u y0 z_1 hz_1.symm H.size) (cwV 1 hts gX5_room_X5_refused rfl rfl rfl (by decide +kernel) ⟨Nat.le_of_ble_eq_true rfl, Nat.le_of_ble_eq_true rfl⟩) (gPreV (ci := 4) (C := RX5) (T := TX5) (N := 27) hP hK hD [0, 1, 2, 3, 4, 5, 6, 7, 8, 9, 10, 11, 12, 13] (by decide) rfl 0 rfl rfl) rfl rfl hl.1 rfl (lv_room (Nat.le_of_ble_eq_true rfl)) dX5_room_17 ⟨Nat.le_of_ble_eq_true rfl, Nat.le_of_ble_eq_true rfl⟩) hP hD hS hA [0, 1, 2, 3, 4, 5, 6, 7, 8, 9, 10, 11, 12, 13] [] [0, 1, 2, 3, 4, 5, 6, 7, 8, 9, 10, 11, 12, 13] rfl rfl (by decide) (by decide) rfl (by decide) (fun H locs hP hD hS => ?_)
  refine lv_if_eq (tgt := 24) hx hb dX5_room_20 (by decide) (fun c_2 => ?_) (fun c_2 => ?_)
  · replace hf := pI_t c_2 hf
    refine lv_aload_n hx hb dX5_room_24 rfl (lv_at hl 0 rfl) ?_
    refine lv_iload_n hx hb dX5_room_25 rfl (lv_at hl 1 rfl) ?_
    refine va_put (D := D) (ci := 4) (v := .int x1) (ty := .int) (C := RX5) (T := TX5) (N := 27) hx hb hts inX5_room_X5 tyX5 tyX5_ok nmX5 hown hK hP hD hS 0 rfl rfl 15 (by decide) (hts (.fieldLink RX5 47 "BlockCacheModel" "room" "I") (by decide +kernel)) (fun _ h9 => h9) rfl (by decide +kernel) rfl rfl (Nat.le_of_ble_eq_true rfl) dX5_room_26 (fun H locs hP hD hS => ?_)
    obtain ⟨u_3, eu_3, hf⟩ := pLet_out hf
    replace hP : va_P D vwCl (wM a0 a1 a2 a3 a4 a5 a6 a7 a8 a9 a10 a11 a12 a13 cI u_3) H := by rw [eu_3]; exact hP
    replace hD : va_D A (wM a0 a1 a2 a3 a4 a5 a6 a7 a8 a9 a10 a11 a12 a13 cI u_3) := by rw [eu_3]; exact hD
    refine lv_aload_n hx hb dX5_room_29 rfl (lv_at hl 0 rfl) ?_
    obtain ⟨z_4, hz_4, hf⟩ := pB_out hf
    refine gV (w' := (wM a0 a1 a2 a3 a4 a5 a6 a7 a8 a9 a10 a11 a12 a13 cI z_4)) (va_runV (As := []) (rest := []) ⟨hx, hb, hml, hown, hts⟩ (ctX5_empty l D cI a0 a1 a2 a3 a4 a5 a6 a7 a8 a9 a10 a11 a12 a13 u_3 z_4 hz_4 H.size) (cwV 0 hts gX5_room_X5_empty rfl rfl rfl (by decide +kernel) ⟨Nat.le_of_ble_eq_true rfl, Nat.le_of_ble_eq_true rfl⟩) (gPreV (ci := 4) (C := RX5) (T := TX5) (N := 27) hP hK hD [0, 1, 2, 3, 4, 5, 6, 7, 8, 9, 10, 11, 12, 13] (by decide) rfl 0 rfl rfl) rfl rfl hl.1 rfl (lv_room (Nat.le_of_ble_eq_true rfl)) dX5_room_30 ⟨Nat.le_of_ble_eq_true rfl, Nat.le_of_ble_eq_true rfl⟩) hP hD hS hA [0, 1, 2, 3, 4, 5, 6, 7, 8, 9, 10, 11, 12, 13] [] [0, 1, 2, 3, 4, 5, 6, 7, 8, 9, 10, 11, 12, 13] rfl rfl (by decide) (by decide) rfl (by decide) (fun H locs hP hD hS => ?_)
    have hz := Option.some.inj hf
    subst hz
    exact gRetV hx hb hr hlocks hK hP hD hS rfl dX5_room_33
  · replace hf := pI_f c_2 hf
    have hz := Option.some.inj hf
    subst hz
    exact gRetV hx hb hr hlocks hK hP hD hS rfl dX5_room_23
set_option maxRecDepth 100000 in
set_option maxHeartbeats 4000000 in
theorem wkX5_room {p : Program} {l : Launch} {e : Env} {s : State} {m : MethodId} {args : Array Value} {below : List Frame} {meth : Method} {c : Code} {D : va_G} {cI : ClassId} {A : Nat → Prop} {a0 a1 a2 a3 a4 a5 a6 a7 a8 a9 a10 a11 a12 a13 : Nat} (C : cxt p s m args meth c cX5_room none 2 RX5 wsX5_room D vwCl [(cI, .int)] A) : ∀ (z : TM) (u : TM) (x1 : Int32) (H : Heap) (locs : List Loc) (ls : Array Slot), fX5_room u x1 = some z → va_P D vwCl (wM a0 a1 a2 a3 a4 a5 a6 a7 a8 a9 a10 a11 a12 a13 cI u) H → va_D A (wM a0 a1 a2 a3 a4 a5 a6 a7 a8 a9 a10 a11 a12 a13 cI u) → va_S A s.heap H locs → lv_has ls 2 [(0, .ref a0), (1, .int x1)] → W p l e rmX5_room s m args below meth c H locs 0 0 (MQ below (oV D vwCl [(cI, .int)] A (wM a0 a1 a2 a3 a4 a5 a6 a7 a8 a9 a10 a11 a12 a13 cI z)) args s 0 0 A) (F0 m 0 ls []) := by
  have C0 := C
  obtain ⟨hx, hb, hr, hml, hown, hts, hlocks, hK, hA⟩ := C
  intro z u x1 H locs ls hf hP hD hS hl
  unfold fX5_room at hf
  refine lv_aload_n hx hb dX5_room_0 rfl (lv_at hl 0 rfl) ?_
  refine lv_iload_n hx hb dX5_room_1 rfl (lv_at hl 1 rfl) ?_
  refine lv_iconst (v := 1) hx hb dX5_room_2 (by decide) ?_
  refine lv_sipush (v := 400) hx hb dX5_room_3 (by decide) ?_
  obtain ⟨z_1, hz_1, hf⟩ := pLet_out hf
  refine gI0 (va_runS (As := [.int x1, .int 1, .int 400]) (rest := [.ref a0]) ⟨hx, hb, hml, hown, hts⟩ (ctX5_isIn l D cI x1 1 400 z_1 hz_1.symm H.size) (va_cwS 3 hts gX5_room_X5_isIn rfl rfl rfl (by decide +kernel) ⟨Nat.le_of_ble_eq_true rfl, Nat.le_of_ble_eq_true rfl⟩) (gPreS hP hK hD [] (by decide) rfl) rfl rfl hl.1 rfl (lv_room (Nat.le_of_ble_eq_true rfl)) dX5_room_6 ⟨Nat.le_of_ble_eq_true rfl, Nat.le_of_ble_eq_true rfl⟩) hP hD hS hA (fun H locs hP hS => ?_)
  refine lv_if_eq (tgt := 16) hx hb dX5_room_9 (by decide) (fun c_2 => ?_) (fun c_2 => ?_)
  · replace hf := pI_t c_2 hf
    refine lv_iconst (v := 1) hx hb dX5_room_16 (by decide) ?_
    exact wkX5_room_b17 C0 _ _ _ _ H locs ls hf hP hD hS (lv_sub hl [0, 1] rfl)
  · replace hf := pI_f c_2 hf
    refine lv_iconst (v := 0) hx hb dX5_room_12 (by decide) ?_
    refine lv_goto (tgt := 17) hx hb dX5_room_13 (by decide) ?_
    exact wkX5_room_b17 C0 _ _ _ _ H locs ls hf hP hD hS (lv_sub hl [0, 1] rfl)
theorem ctX5_room (l : Launch) (D : va_G) (cI : ClassId) (a0 a1 a2 a3 a4 a5 a6 a7 a8 a9 a10 a11 a12 a13 : Nat) (u : TM) (x1 : Int32) (z : TM) (hz : fX5_room u x1 = some z) : CtV l yX5_room wsX5_room rmX5_room D vwCl [(cI, .int)] [.ref a0, .int x1] (wM a0 a1 a2 a3 a4 a5 a6 a7 a8 a9 a10 a11 a12 a13 cI u) (wM a0 a1 a2 a3 a4 a5 a6 a7 a8 a9 a10 a11 a12 a13 cI z) :=
  ctV_of (cc := cX5_room) (maxL := 2) (ret := none) (by decide) rfl (Nat.le_of_ble_eq_true rfl) (fun p e s m below meth c A ls C hl hP hD hS => wkX5_room C z _ _ s.heap [] ls hz hP hD hS hl)

abbrev rmX5_stepOn : Room := { frames := 4, cells := 0, slots := 0, locals := 87 }
theorem inX5_stepOn_X5 : ∀ w ∈ wsX50, w ∈ wsX5_stepOn := by decide +kernel
set_option maxRecDepth 100000 in
set_option maxHeartbeats 4000000 in
theorem wkX5_stepOn_b200 {p : Program} {l : Launch} {e : Env} {s : State} {m : MethodId} {args : Array Value} {below : List Frame} {meth : Method} {c : Code} {D : va_G} {cI : ClassId} {A : Nat → Prop} {a0 a1 a2 a3 a4 a5 a6 a7 a8 a9 a10 a11 a12 a13 : Nat} (C : cxt p s m args meth c cX5_stepOn none 7 RX5 wsX5_stepOn D vwCl [(cI, .int)] A) : ∀ (z : TM) (u : TM) (y0 : Int32) (y1 : Int32) (H : Heap) (locs : List Loc) (ls : Array Slot), fX5_stepOn_b200 u y0 y1 = some z → va_P D vwCl (wM a0 a1 a2 a3 a4 a5 a6 a7 a8 a9 a10 a11 a12 a13 cI u) H → va_D A (wM a0 a1 a2 a3 a4 a5 a6 a7 a8 a9 a10 a11 a12 a13 cI u) → va_S A s.heap H locs → lv_has ls 7 [] → W p l e rmX5_stepOn s m args below meth c H locs 0 0 (MQ below (oV D vwCl [(cI, .int)] A (wM a0 a1 a2 a3 a4 a5 a6 a7 a8 a9 a10 a11 a12 a13 cI z)) args s 0 0 A) (F0 m 200 ls [.int y0, .int y1, .ref a2]) := by
  have C0 := C
  obtain ⟨hx, hb, hr, hml, hown, hts, hlocks, hK, hA⟩ := C
  intro z u y0 y1 H locs ls hf hP hD hS hl
  unfold fX5_stepOn_b200 at hf
  obtain ⟨h_1, hf⟩ := pIn_out hf
  refine va_iast hx hb hK hP hD hS 2 0 rfl rfl h_1 dX5_stepOn_200 (fun H locs hP hD hS => ?_)
  obtain ⟨u_2, eu_2, hf⟩ := pLet_out hf
  replace hP : va_P D vwCl (wM a0 a1 a2 a3 a4 a5 a6 a7 a8 a9 a10 a11 a12 a13 cI u_2) H := by rw [eu_2]; exact hP
  replace hD : va_D A (wM a0 a1 a2 a3 a4 a5 a6 a7 a8 a9 a10 a11 a12 a13 cI u_2) := by rw [eu_2]; exact hD
  refine lv_goto (tgt := 301) hx hb dX5_stepOn_201 (by decide) ?_
  have hz := Option.some.inj hf
  subst hz
  exact gRetV hx hb hr hlocks hK hP hD hS rfl dX5_stepOn_301
set_option maxRecDepth 100000 in
set_option maxHeartbeats 4000000 in
theorem wkX5_stepOn_b300 {p : Program} {l : Launch} {e : Env} {s : State} {m : MethodId} {args : Array Value} {below : List Frame} {meth : Method} {c : Code} {D : va_G} {cI : ClassId} {A : Nat → Prop} {a0 a1 a2 a3 a4 a5 a6 a7 a8 a9 a10 a11 a12 a13 : Nat} (C : cxt p s m args meth c cX5_stepOn none 7 RX5 wsX5_stepOn D vwCl [(cI, .int)] A) : ∀ (z : TM) (u : TM) (y0 : Int32) (y1 : Int32) (H : Heap) (locs : List Loc) (ls : Array Slot), fX5_stepOn_b300 u y0 y1 = some z → va_P D vwCl (wM a0 a1 a2 a3 a4 a5 a6 a7 a8 a9 a10 a11 a12 a13 cI u) H → va_D A (wM a0 a1 a2 a3 a4 a5 a6 a7 a8 a9 a10 a11 a12 a13 cI u) → va_S A s.heap H locs → lv_has ls 7 [] → W p l e rmX5_stepOn s m args below meth c H locs 0 0 (MQ below (oV D vwCl [(cI, .int)] A (wM a0 a1 a2 a3 a4 a5 a6 a7 a8 a9 a10 a11 a12 a13 cI z)) args s 0 0 A) (F0 m 300 ls [.int y0, .int y1, .ref a2]) := by
  have C0 := C
  obtain ⟨hx, hb, hr, hml, hown, hts, hlocks, hK, hA⟩ := C
  intro z u y0 y1 H locs ls hf hP hD hS hl
  unfold fX5_stepOn_b300 at hf
  obtain ⟨h_1, hf⟩ := pIn_out hf
  refine va_iast hx hb hK hP hD hS 2 0 rfl rfl h_1 dX5_stepOn_300 (fun H locs hP hD hS => ?_)
  obtain ⟨u_2, eu_2, hf⟩ := pLet_out hf
  replace hP : va_P D vwCl (wM a0 a1 a2 a3 a4 a5 a6 a7 a8 a9 a10 a11 a12 a13 cI u_2) H := by rw [eu_2]; exact hP
  replace hD : va_D A (wM a0 a1 a2 a3 a4 a5 a6 a7 a8 a9 a10 a11 a12 a13 cI u_2) := by rw [eu_2]; exact hD
  have hz := Option.some.inj hf
  subst hz
  exact gRetV hx hb hr hlocks hK hP hD hS rfl dX5_stepOn_301
set_option maxRecDepth 100000 in
set_option maxHeartbeats 4000000 in
theorem wkX5_stepOn {p : Program} {l : Launch} {e : Env} {s : State} {m : MethodId} {args : Array Value} {below : List Frame} {meth : Method} {c : Code} {D : va_G} {cI : ClassId} {A : Nat → Prop} {a0 a1 a2 a3 a4 a5 a6 a7 a8 a9 a10 a11 a12 a13 : Nat} (C : cxt p s m args meth c cX5_stepOn none 7 RX5 wsX5_stepOn D vwCl [(cI, .int)] A) : ∀ (z : TM) (u : TM) (x1 : Int32) (x2 : Int32) (x3 : Int32) (x4 : Int32) (x5 : Int32) (H : Heap) (locs : List Loc) (ls : Array Slot), fX5_stepOn u x1 x2 x3 x4 x5 = some z → va_P D vwCl (wM a0 a1 a2 a3 a4 a5 a6 a7 a8 a9 a10 a11 a12 a13 cI u) H → va_D A (wM a0 a1 a2 a3 a4 a5 a6 a7 a8 a9 a10 a11 a12 a13 cI u) → va_S A s.heap H locs → lv_has ls 7 [(0, .ref a0), (1, .int x1), (2, .int x2), (3, .int x3), (4, .int x4), (5, .int x5)] → W p l e rmX5_stepOn s m args below meth c H locs 0 0 (MQ below (oV D vwCl [(cI, .int)] A (wM a0 a1 a2 a3 a4 a5 a6 a7 a8 a9 a10 a11 a12 a13 cI z)) args s 0 0 A) (F0 m 0 ls []) := by
  have C0 := C
  obtain ⟨hx, hb, hr, hml, hown, hts, hlocks, hK, hA⟩ := C
  intro z u x1 x2 x3 x4 x5 H locs ls hf hP hD hS hl
  unfold fX5_stepOn at hf
  refine lv_aload_n hx hb dX5_stepOn_0 rfl (lv_at hl 0 rfl) ?_
  refine va_get (D := D) (ci := 4) (v := .int (gM_kind u)) (C := RX5) (T := TX5) (N := 27) hx hb hts inX5_stepOn_X5 hown hK hP 0 rfl rfl 18 (by decide) (hts (.fieldLink RX5 66 "BlockCacheModel" "kind" "I") (by decide +kernel)) (fun _ h9 => h9) rfl dX5_stepOn_1 ?_
  obtain ⟨x_1, ex_1, hf⟩ := pLet_out hf
  refine gTop ex_1 ?_
  by_cases c_9 : x_1 = 17
  · replace hf := pI_t c_9 hf
    refine lv_tableIn (tgt := 64) (off := 60) hx hb dX5_stepOn_4 (by rw [c_9]; decide) (by rw [c_9]; decide) (by rw [c_9]; rfl) (by decide) ?_
    refine lv_aload_n hx hb dX5_stepOn_64 rfl (lv_at hl 0 rfl) ?_
    refine va_get (D := D) (ci := 4) (v := .ref a2) (C := RX5) (T := TX5) (N := 27) hx hb hts inX5_stepOn_X5 hown hK hP 0 rfl rfl 2 (by decide) (hts (.fieldLink RX5 13 "BlockCacheModel" "reg" "[I") (by decide +kernel)) (fun _ h9 => h9) rfl dX5_stepOn_65 ?_
    refine lv_iload_n hx hb dX5_stepOn_68 rfl (lv_at hl 2 rfl) ?_
    refine lv_iload_n hx hb dX5_stepOn_69 rfl (lv_at hl 1 rfl) ?_
    obtain ⟨h_7, hf⟩ := pIn_out hf
    refine va_iast hx hb hK hP hD hS 2 0 rfl rfl h_7 dX5_stepOn_70 (fun H locs hP hD hS => ?_)
    obtain ⟨u_8, eu_8, hf⟩ := pLet_out hf
    replace hP : va_P D vwCl (wM a0 a1 a2 a3 a4 a5 a6 a7 a8 a9 a10 a11 a12 a13 cI u_8) H := by rw [eu_8]; exact hP
    replace hD : va_D A (wM a0 a1 a2 a3 a4 a5 a6 a7 a8 a9 a10 a11 a12 a13 cI u_8) := by rw [eu_8]; exact hD
    refine lv_goto (tgt := 301) hx hb dX5_stepOn_71 (by decide) ?_
    have hz := Option.some.inj hf
    subst hz
    exact gRetV hx hb hr hlocks hK hP hD hS rfl dX5_stepOn_301
  · replace hf := pI_f c_9 hf
    by_cases c_11 : x_1 = 18
    · replace hf := pI_t c_11 hf
      refine lv_tableIn (tgt := 74) (off := 70) hx hb dX5_stepOn_4 (by rw [c_11]; decide) (by rw [c_11]; decide) (by rw [c_11]; rfl) (by decide) ?_
      refine lv_aload_n hx hb dX5_stepOn_74 rfl (lv_at hl 0 rfl) ?_
      refine lv_iload_n hx hb dX5_stepOn_75 rfl (lv_at hl 2 rfl) ?_
      refine lv_iload_n hx hb dX5_stepOn_76 rfl (lv_at hl 1 rfl) ?_
      refine lv_iconst (v := 0) hx hb dX5_stepOn_77 (by decide) ?_
      obtain ⟨z_10, hz_10, hf⟩ := pB_out hf
      refine gV (w' := (wM a0 a1 a2 a3 a4 a5 a6 a7 a8 a9 a10 a11 a12 a13 cI z_10)) (va_runV (As := [.int x2, .int x1, .int 0]) (rest := []) ⟨hx, hb, hml, hown, hts⟩ (ctX5_add l D cI a0 a1 a2 a3 a4 a5 a6 a7 a8 a9 a10 a11 a12 a13 u x2 x1 0 z_10 hz_10 H.size) (cwV 3 hts gX5_stepOn_X5_add rfl rfl rfl (by decide +kernel) ⟨Nat.le_of_ble_eq_true rfl, Nat.le_of_ble_eq_true rfl⟩) (gPreV (ci := 4) (C := RX5) (T := TX5) (N := 27) hP hK hD [0, 1, 2, 3, 4, 5, 6, 7, 8, 9, 10, 11, 12, 13] (by decide) rfl 0 rfl rfl) rfl rfl hl.1 rfl (lv_room (Nat.le_of_ble_eq_true rfl)) dX5_stepOn_78 ⟨Nat.le_of_ble_eq_true rfl, Nat.le_of_ble_eq_true rfl⟩) hP hD hS hA [0, 1, 2, 3, 4, 5, 6, 7, 8, 9, 10, 11, 12, 13] [] [0, 1, 2, 3, 4, 5, 6, 7, 8, 9, 10, 11, 12, 13] rfl rfl (by decide) (by decide) rfl (by decide) (fun H locs hP hD hS => ?_)
      refine lv_goto (tgt := 301) hx hb dX5_stepOn_81 (by decide) ?_
      have hz := Option.some.inj hf
      subst hz
      exact gRetV hx hb hr hlocks hK hP hD hS rfl dX5_stepOn_301
    · replace hf := pI_f c_11 hf
      by_cases c_14 : x_1 = 19
      · replace hf := pI_t c_14 hf
        refine lv_tableIn (tgt := 84) (off := 80) hx hb dX5_stepOn_4 (by rw [c_14]; decide) (by rw [c_14]; decide) (by rw [c_14]; rfl) (by decide) ?_
        refine lv_aload_n hx hb dX5_stepOn_84 rfl (lv_at hl 0 rfl) ?_
        refine lv_aload_n hx hb dX5_stepOn_85 rfl (lv_at hl 0 rfl) ?_
        refine va_get (D := D) (ci := 4) (v := .ref a2) (C := RX5) (T := TX5) (N := 27) hx hb hts inX5_stepOn_X5 hown hK hP 0 rfl rfl 2 (by decide) (hts (.fieldLink RX5 13 "BlockCacheModel" "reg" "[I") (by decide +kernel)) (fun _ h9 => h9) rfl dX5_stepOn_86 ?_
        refine lv_iload_n hx hb dX5_stepOn_89 rfl (lv_at hl 2 rfl) ?_
        obtain ⟨h_12, hf⟩ := pIn_out hf
        refine va_iald hx hb hK hP 2 0 rfl rfl h_12 dX5_stepOn_90 ?_
        refine lv_iload_n hx hb dX5_stepOn_91 rfl (lv_at hl 1 rfl) ?_
        obtain ⟨z_13, hz_13, hf⟩ := pB_out hf
        refine gI (w' := (wM a0 a1 a2 a3 a4 a5 a6 a7 a8 a9 a10 a11 a12 a13 cI z_13.2)) (va_runV (As := [.int ((gM_reg u) x2.toNatClampNeg), .int x1]) (rest := []) ⟨hx, hb, hml, hown, hts⟩ (ctX5_less l D cI a0 a1 a2 a3 a4 a5 a6 a7 a8 a9 a10 a11 a12 a13 u ((gM_reg u) x2.toNatClampNeg) x1 z_13 hz_13 H.size) (cwV 2 hts gX5_stepOn_X5_less rfl rfl rfl (by decide +kernel) ⟨Nat.le_of_ble_eq_true rfl, Nat.le_of_ble_eq_true rfl⟩) (gPreV (ci := 4) (C := RX5) (T := TX5) (N := 27) hP hK hD [0, 1, 2, 3, 4, 5, 6, 7, 8, 9, 10, 11, 12, 13] (by decide) rfl 0 rfl rfl) rfl rfl hl.1 rfl (lv_room (Nat.le_of_ble_eq_true rfl)) dX5_stepOn_92 ⟨Nat.le_of_ble_eq_true rfl, Nat.le_of_ble_eq_true rfl⟩) hP hD hS hA [0, 1, 2, 3, 4, 5, 6, 7, 8, 9, 10, 11, 12, 13] [] [0, 1, 2, 3, 4, 5, 6, 7, 8, 9, 10, 11, 12, 13] rfl rfl (by decide) (by decide) rfl (by decide) (fun H locs hP hD hS => ?_)
        refine lv_istore (lv' := [(6, .int z_13.1), (0, .ref a0), (1, .int x1), (2, .int x2), (3, .int x3), (4, .int x4), (5, .int x5)]) hx hb dX5_stepOn_95 hl (by decide) rfl (fun ls hl => ?_)
        refine lv_goto (tgt := 301) hx hb dX5_stepOn_97 (by decide) ?_
        have hz := Option.some.inj hf
        subst hz
        exact gRetV hx hb hr hlocks hK hP hD hS rfl dX5_stepOn_301
      · replace hf := pI_f c_14 hf
        by_cases c_20 : x_1 = 20
        · replace hf := pI_t c_20 hf
          refine lv_tableIn (tgt := 100) (off := 96) hx hb dX5_stepOn_4 (by rw [c_20]; decide) (by rw [c_20]; decide) (by rw [c_20]; rfl) (by decide) ?_
          refine lv_aload_n hx hb dX5_stepOn_100 rfl (lv_at hl 0 rfl) ?_
          refine va_get (D := D) (ci := 4) (v := .ref a2) (C := RX5) (T := TX5) (N := 27) hx hb hts inX5_stepOn_X5 hown hK hP 0 rfl rfl 2 (by decide) (hts (.fieldLink RX5 13 "BlockCacheModel" "reg" "[I") (by decide +kernel)) (fun _ h9 => h9) rfl dX5_stepOn_101 ?_
          refine lv_iload_n hx hb dX5_stepOn_104 rfl (lv_at hl 2 rfl) ?_
          refine lv_aload_n hx hb dX5_stepOn_105 rfl (lv_at hl 0 rfl) ?_
          refine va_get (D := D) (ci := 4) (v := .ref a2) (C := RX5) (T := TX5) (N := 27) hx hb hts inX5_stepOn_X5 hown hK hP 0 rfl rfl 2 (by decide) (hts (.fieldLink RX5 13 "BlockCacheModel" "reg" "[I") (by decide +kernel)) (fun _ h9 => h9) rfl dX5_stepOn_106 ?_
          refine lv_iload_n hx hb dX5_stepOn_109 rfl (lv_at hl 2 rfl) ?_
          obtain ⟨h_15, hf⟩ := pIn_out hf
          refine va_iald hx hb hK hP 2 0 rfl rfl h_15 dX5_stepOn_110 ?_
          refine lv_iload_n hx hb dX5_stepOn_111 rfl (lv_at hl 1 rfl) ?_
          refine lv_ixor hx hb dX5_stepOn_112 ?_
          obtain ⟨h_16, hf⟩ := pIn_out hf
          refine va_iast hx hb hK hP hD hS 2 0 rfl rfl h_16 dX5_stepOn_113 (fun H locs hP hD hS => ?_)
          obtain ⟨u_17, eu_17, hf⟩ := pLet_out hf
          replace hP : va_P D vwCl (wM a0 a1 a2 a3 a4 a5 a6 a7 a8 a9 a10 a11 a12 a13 cI u_17) H := by rw [eu_17]; exact hP
          replace hD : va_D A (wM a0 a1 a2 a3 a4 a5 a6 a7 a8 a9 a10 a11 a12 a13 cI u_17) := by rw [eu_17]; exact hD
          refine lv_aload_n hx hb dX5_stepOn_114 rfl (lv_at hl 0 rfl) ?_
          refine lv_aload_n hx hb dX5_stepOn_115 rfl (lv_at hl 0 rfl) ?_
          refine va_get (D := D) (ci := 4) (v := .ref a2) (C := RX5) (T := TX5) (N := 27) hx hb hts inX5_stepOn_X5 hown hK hP 0 rfl rfl 2 (by decide) (hts (.fieldLink RX5 13 "BlockCacheModel" "reg" "[I") (by decide +kernel)) (fun _ h9 => h9) rfl dX5_stepOn_116 ?_
          refine lv_iload_n hx hb dX5_stepOn_119 rfl (lv_at hl 2 rfl) ?_
          obtain ⟨h_18, hf⟩ := pIn_out hf
          refine va_iald hx hb hK hP 2 0 rfl rfl h_18 dX5_stepOn_120 ?_
          refine lv_iconst (v := 0) hx hb dX5_stepOn_121 (by decide) ?_
          obtain ⟨z_19, hz_19, hf⟩ := pB_out hf
          refine gV (w' := (wM a0 a1 a2 a3 a4 a5 a6 a7 a8 a9 a10 a11 a12 a13 cI z_19)) (va_runV (As := [.int ((gM_reg u_17) x2.toNatClampNeg), .int 0]) (rest := []) ⟨hx, hb, hml, hown, hts⟩ (ctX5_setFlags l D cI a0 a1 a2 a3 a4 a5 a6 a7 a8 a9 a10 a11 a12 a13 u_17 ((gM_reg u_17) x2.toNatClampNeg) 0 z_19 hz_19 H.size) (cwV 2 hts gX5_stepOn_X5_setFlags rfl rfl rfl (by decide +kernel) ⟨Nat.le_of_ble_eq_true rfl, Nat.le_of_ble_eq_true rfl⟩) (gPreV (ci := 4) (C := RX5) (T := TX5) (N := 27) hP hK hD [0, 1, 2, 3, 4, 5, 6, 7, 8, 9, 10, 11, 12, 13] (by decide) rfl 0 rfl rfl) rfl rfl hl.1 rfl (lv_room (Nat.le_of_ble_eq_true rfl)) dX5_stepOn_122 ⟨Nat.le_of_ble_eq_true rfl, Nat.le_of_ble_eq_true rfl⟩) hP hD hS hA [0, 1, 2, 3, 4, 5, 6, 7, 8, 9, 10, 11, 12, 13] [] [0, 1, 2, 3, 4, 5, 6, 7, 8, 9, 10, 11, 12, 13] rfl rfl (by decide) (by decide) rfl (by decide) (fun H locs hP hD hS => ?_)
          refine lv_goto (tgt := 301) hx hb dX5_stepOn_125 (by decide) ?_
          have hz := Option.some.inj hf
          subst hz
          exact gRetV hx hb hr hlocks hK hP hD hS rfl dX5_stepOn_301
        · replace hf := pI_f c_20 hf
          by_cases c_25 : x_1 = 21
          · replace hf := pI_t c_25 hf
            refine lv_tableIn (tgt := 128) (off := 124) hx hb dX5_stepOn_4 (by rw [c_25]; decide) (by rw [c_25]; decide) (by rw [c_25]; rfl) (by decide) ?_
            refine lv_aload_n hx hb dX5_stepOn_128 rfl (lv_at hl 0 rfl) ?_
            refine va_get (D := D) (ci := 4) (v := .ref a2) (C := RX5) (T := TX5) (N := 27) hx hb hts inX5_stepOn_X5 hown hK hP 0 rfl rfl 2 (by decide) (hts (.fieldLink RX5 13 "BlockCacheModel" "reg" "[I") (by decide +kernel)) (fun _ h9 => h9) rfl dX5_stepOn_129 ?_
            refine lv_iload_n hx hb dX5_stepOn_132 rfl (lv_at hl 2 rfl) ?_
            refine lv_aload_n hx hb dX5_stepOn_133 rfl (lv_at hl 0 rfl) ?_
            refine va_get (D := D) (ci := 4) (v := .ref a1) (C := RX5) (T := TX5) (N := 27) hx hb hts inX5_stepOn_X5 hown hK hP 0 rfl rfl 1 (by decide) (hts (.fieldLink RX5 7 "BlockCacheModel" "memory" "[I") (by decide +kernel)) (fun _ h9 => h9) rfl dX5_stepOn_134 ?_
            refine lv_aload_n hx hb dX5_stepOn_137 rfl (lv_at hl 0 rfl) ?_
            refine va_get (D := D) (ci := 4) (v := .ref a2) (C := RX5) (T := TX5) (N := 27) hx hb hts inX5_stepOn_X5 hown hK hP 0 rfl rfl 2 (by decide) (hts (.fieldLink RX5 13 "BlockCacheModel" "reg" "[I") (by decide +kernel)) (fun _ h9 => h9) rfl dX5_stepOn_138 ?_
            refine lv_iload_n hx hb dX5_stepOn_141 rfl (lv_at hl 3 rfl) ?_
            obtain ⟨h_21, hf⟩ := pIn_out hf
            refine va_iald hx hb hK hP 2 0 rfl rfl h_21 dX5_stepOn_142 ?_
            refine lv_iload_n hx hb dX5_stepOn_143 rfl (lv_at hl 1 rfl) ?_
            refine lv_iadd hx hb dX5_stepOn_144 ?_
            refine lv_sipush (v := 255) hx hb dX5_stepOn_145 (by decide) ?_
            refine lv_iand hx hb dX5_stepOn_148 ?_
            obtain ⟨h_22, hf⟩ := pIn_out hf
            refine va_iald hx hb hK hP 1 0 rfl rfl h_22 dX5_stepOn_149 ?_
            obtain ⟨h_23, hf⟩ := pIn_out hf
            refine va_iast hx hb hK hP hD hS 2 0 rfl rfl h_23 dX5_stepOn_150 (fun H locs hP hD hS => ?_)
            obtain ⟨u_24, eu_24, hf⟩ := pLet_out hf
            replace hP : va_P D vwCl (wM a0 a1 a2 a3 a4 a5 a6 a7 a8 a9 a10 a11 a12 a13 cI u_24) H := by rw [eu_24]; exact hP
            replace hD : va_D A (wM a0 a1 a2 a3 a4 a5 a6 a7 a8 a9 a10 a11 a12 a13 cI u_24) := by rw [eu_24]; exact hD
            refine lv_goto (tgt := 301) hx hb dX5_stepOn_151 (by decide) ?_
            have hz := Option.some.inj hf
            subst hz
            exact gRetV hx hb hr hlocks hK hP hD hS rfl dX5_stepOn_301
          · replace hf := pI_f c_25 hf
            by_cases c_29 : x_1 = 22
            · replace hf := pI_t c_29 hf
              refine lv_tableIn (tgt := 154) (off := 150) hx hb dX5_stepOn_4 (by rw [c_29]; decide) (by rw [c_29]; decide) (by rw [c_29]; rfl) (by decide) ?_
              refine lv_aload_n hx hb dX5_stepOn_154 rfl (lv_at hl 0 rfl) ?_
              refine lv_aload_n hx hb dX5_stepOn_155 rfl (lv_at hl 0 rfl) ?_
              refine va_get (D := D) (ci := 4) (v := .ref a2) (C := RX5) (T := TX5) (N := 27) hx hb hts inX5_stepOn_X5 hown hK hP 0 rfl rfl 2 (by decide) (hts (.fieldLink RX5 13 "BlockCacheModel" "reg" "[I") (by decide +kernel)) (fun _ h9 => h9) rfl dX5_stepOn_156 ?_
              refine lv_iload_n hx hb dX5_stepOn_159 rfl (lv_at hl 3 rfl) ?_
              obtain ⟨h_26, hf⟩ := pIn_out hf
              refine va_iald hx hb hK hP 2 0 rfl rfl h_26 dX5_stepOn_160 ?_
              refine lv_iload_n hx hb dX5_stepOn_161 rfl (lv_at hl 1 rfl) ?_
              refine lv_iadd hx hb dX5_stepOn_162 ?_
              refine lv_sipush (v := 255) hx hb dX5_stepOn_163 (by decide) ?_
              refine lv_iand hx hb dX5_stepOn_166 ?_
              refine lv_aload_n hx hb dX5_stepOn_167 rfl (lv_at hl 0 rfl) ?_
              refine va_get (D := D) (ci := 4) (v := .ref a2) (C := RX5) (T := TX5) (N := 27) hx hb hts inX5_stepOn_X5 hown hK hP 0 rfl rfl 2 (by decide) (hts (.fieldLink RX5 13 "BlockCacheModel" "reg" "[I") (by decide +kernel)) (fun _ h9 => h9) rfl dX5_stepOn_168 ?_
              refine lv_iload_n hx hb dX5_stepOn_171 rfl (lv_at hl 2 rfl) ?_
              obtain ⟨h_27, hf⟩ := pIn_out hf
              refine va_iald hx hb hK hP 2 0 rfl rfl h_27 dX5_stepOn_172 ?_
              obtain ⟨z_28, hz_28, hf⟩ := pB_out hf
              refine gV (w' := (wM a0 a1 a2 a3 a4 a5 a6 a7 a8 a9 a10 a11 a12 a13 cI z_28)) (va_runV (As := [.int ((((gM_reg u) x3.toNatClampNeg) + x1) &&& 255), .int ((gM_reg u) x2.toNatClampNeg)]) (rest := []) ⟨hx, hb, hml, hown, hts⟩ (ctX5_write l D cI a0 a1 a2 a3 a4 a5 a6 a7 a8 a9 a10 a11 a12 a13 u ((((gM_reg u) x3.toNatClampNeg) + x1) &&& 255) ((gM_reg u) x2.toNatClampNeg) z_28 hz_28 H.size) (cwV 2 hts gX5_stepOn_X5_write rfl rfl rfl (by decide +kernel) ⟨Nat.le_of_ble_eq_true rfl, Nat.le_of_ble_eq_true rfl⟩) (gPreV (ci := 4) (C := RX5) (T := TX5) (N := 27) hP hK hD [0, 1, 2, 3, 4, 5, 6, 7, 8, 9, 10, 11, 12, 13] (by decide) rfl 0 rfl rfl) rfl rfl hl.1 rfl (lv_room (Nat.le_of_ble_eq_true rfl)) dX5_stepOn_173 ⟨Nat.le_of_ble_eq_true rfl, Nat.le_of_ble_eq_true rfl⟩) hP hD hS hA [0, 1, 2, 3, 4, 5, 6, 7, 8, 9, 10, 11, 12, 13] [] [0, 1, 2, 3, 4, 5, 6, 7, 8, 9, 10, 11, 12, 13] rfl rfl (by decide) (by decide) rfl (by decide) (fun H locs hP hD hS => ?_)
              refine lv_goto (tgt := 301) hx hb dX5_stepOn_176 (by decide) ?_
              have hz := Option.some.inj hf
              subst hz
              exact gRetV hx hb hr hlocks hK hP hD hS rfl dX5_stepOn_301
            · replace hf := pI_f c_29 hf
              by_cases c_32 : x_1 = 23
              · replace hf := pI_t c_32 hf
                refine lv_tableIn (tgt := 179) (off := 175) hx hb dX5_stepOn_4 (by rw [c_32]; decide) (by rw [c_32]; decide) (by rw [c_32]; rfl) (by decide) ?_
                refine lv_aload_n hx hb dX5_stepOn_179 rfl (lv_at hl 0 rfl) ?_
                refine va_get (D := D) (ci := 4) (v := .ref a2) (C := RX5) (T := TX5) (N := 27) hx hb hts inX5_stepOn_X5 hown hK hP 0 rfl rfl 2 (by decide) (hts (.fieldLink RX5 13 "BlockCacheModel" "reg" "[I") (by decide +kernel)) (fun _ h9 => h9) rfl dX5_stepOn_180 ?_
                refine lv_bipush (v := 9) hx hb dX5_stepOn_183 (by decide) ?_
                refine lv_aload_n hx hb dX5_stepOn_185 rfl (lv_at hl 0 rfl) ?_
                refine lv_iload hx hb dX5_stepOn_186 (lv_at hl 4 rfl) ?_
                obtain ⟨z_30, hz_30, hf⟩ := pB_out hf
                refine gI (w' := (wM a0 a1 a2 a3 a4 a5 a6 a7 a8 a9 a10 a11 a12 a13 cI u)) (va_runV (As := [.int x4]) (rest := [.int 9, .ref a2]) ⟨hx, hb, hml, hown, hts⟩ (ctX5_goes l D cI a0 a1 a2 a3 a4 a5 a6 a7 a8 a9 a10 a11 a12 a13 u x4 z_30 hz_30 H.size) (cwV 1 hts gX5_stepOn_X5_goes rfl rfl rfl (by decide +kernel) ⟨Nat.le_of_ble_eq_true rfl, Nat.le_of_ble_eq_true rfl⟩) (gPreV (ci := 4) (C := RX5) (T := TX5) (N := 27) hP hK hD [0, 1, 2, 3, 4, 5, 6, 7, 8, 9, 10, 11, 12, 13] (by decide) rfl 0 rfl rfl) rfl rfl hl.1 rfl (lv_room (Nat.le_of_ble_eq_true rfl)) dX5_stepOn_188 ⟨Nat.le_of_ble_eq_true rfl, Nat.le_of_ble_eq_true rfl⟩) hP hD hS hA [0, 1, 2, 3, 4, 5, 6, 7, 8, 9, 10, 11, 12, 13] [] [0, 1, 2, 3, 4, 5, 6, 7, 8, 9, 10, 11, 12, 13] rfl rfl (by decide) (by decide) rfl (by decide) (fun H locs hP hD hS => ?_)
                refine lv_if_eq (tgt := 198) hx hb dX5_stepOn_191 (by decide) (fun c_31 => ?_) (fun c_31 => ?_)
                · replace hf := pI_t c_31 hf
                  refine lv_iload hx hb dX5_stepOn_198 (lv_at hl 5 rfl) ?_
                  exact wkX5_stepOn_b200 C0 _ _ _ _ H locs ls hf hP hD hS (lv_sub hl [] rfl)
                · replace hf := pI_f c_31 hf
                  refine lv_iload_n hx hb dX5_stepOn_194 rfl (lv_at hl 1 rfl) ?_
                  refine lv_goto (tgt := 200) hx hb dX5_stepOn_195 (by decide) ?_
                  exact wkX5_stepOn_b200 C0 _ _ _ _ H locs ls hf hP hD hS (lv_sub hl [] rfl)
              · replace hf := pI_f c_32 hf
                by_cases c_36 : x_1 = 24
                · replace hf := pI_t c_36 hf
                  refine lv_tableIn (tgt := 204) (off := 200) hx hb dX5_stepOn_4 (by rw [c_36]; decide) (by rw [c_36]; decide) (by rw [c_36]; rfl) (by decide) ?_
                  refine lv_aload_n hx hb dX5_stepOn_204 rfl (lv_at hl 0 rfl) ?_
                  refine lv_iload hx hb dX5_stepOn_205 (lv_at hl 5 rfl) ?_
                  obtain ⟨z_33, hz_33, hf⟩ := pB_out hf
                  refine gV (w' := (wM a0 a1 a2 a3 a4 a5 a6 a7 a8 a9 a10 a11 a12 a13 cI z_33)) (va_runV (As := [.int x5]) (rest := []) ⟨hx, hb, hml, hown, hts⟩ (ctX5_push l D cI a0 a1 a2 a3 a4 a5 a6 a7 a8 a9 a10 a11 a12 a13 u x5 z_33 hz_33 H.size) (cwV 1 hts gX5_stepOn_X5_push rfl rfl rfl (by decide +kernel) ⟨Nat.le_of_ble_eq_true rfl, Nat.le_of_ble_eq_true rfl⟩) (gPreV (ci := 4) (C := RX5) (T := TX5) (N := 27) hP hK hD [0, 1, 2, 3, 4, 5, 6, 7, 8, 9, 10, 11, 12, 13] (by decide) rfl 0 rfl rfl) rfl rfl hl.1 rfl (lv_room (Nat.le_of_ble_eq_true rfl)) dX5_stepOn_207 ⟨Nat.le_of_ble_eq_true rfl, Nat.le_of_ble_eq_true rfl⟩) hP hD hS hA [0, 1, 2, 3, 4, 5, 6, 7, 8, 9, 10, 11, 12, 13] [] [0, 1, 2, 3, 4, 5, 6, 7, 8, 9, 10, 11, 12, 13] rfl rfl (by decide) (by decide) rfl (by decide) (fun H locs hP hD hS => ?_)
                  refine lv_aload_n hx hb dX5_stepOn_210 rfl (lv_at hl 0 rfl) ?_
                  refine va_get (D := D) (ci := 4) (v := .ref a2) (C := RX5) (T := TX5) (N := 27) hx hb hts inX5_stepOn_X5 hown hK hP 0 rfl rfl 2 (by decide) (hts (.fieldLink RX5 13 "BlockCacheModel" "reg" "[I") (by decide +kernel)) (fun _ h9 => h9) rfl dX5_stepOn_211 ?_
                  refine lv_bipush (v := 9) hx hb dX5_stepOn_214 (by decide) ?_
                  refine lv_iload_n hx hb dX5_stepOn_216 rfl (lv_at hl 1 rfl) ?_
                  obtain ⟨h_34, hf⟩ := pIn_out hf
                  refine va_iast hx hb hK hP hD hS 2 0 rfl rfl h_34 dX5_stepOn_217 (fun H locs hP hD hS => ?_)
                  obtain ⟨u_35, eu_35, hf⟩ := pLet_out hf
                  replace hP : va_P D vwCl (wM a0 a1 a2 a3 a4 a5 a6 a7 a8 a9 a10 a11 a12 a13 cI u_35) H := by rw [eu_35]; exact hP
                  replace hD : va_D A (wM a0 a1 a2 a3 a4 a5 a6 a7 a8 a9 a10 a11 a12 a13 cI u_35) := by rw [eu_35]; exact hD
                  refine lv_goto (tgt := 301) hx hb dX5_stepOn_218 (by decide) ?_
                  have hz := Option.some.inj hf
                  subst hz
                  exact gRetV hx hb hr hlocks hK hP hD hS rfl dX5_stepOn_301
                · replace hf := pI_f c_36 hf
                  by_cases c_40 : x_1 = 25
                  · replace hf := pI_t c_40 hf
                    refine lv_tableIn (tgt := 221) (off := 217) hx hb dX5_stepOn_4 (by rw [c_40]; decide) (by rw [c_40]; decide) (by rw [c_40]; rfl) (by decide) ?_
                    refine lv_aload_n hx hb dX5_stepOn_221 rfl (lv_at hl 0 rfl) ?_
                    refine va_get (D := D) (ci := 4) (v := .ref a2) (C := RX5) (T := TX5) (N := 27) hx hb hts inX5_stepOn_X5 hown hK hP 0 rfl rfl 2 (by decide) (hts (.fieldLink RX5 13 "BlockCacheModel" "reg" "[I") (by decide +kernel)) (fun _ h9 => h9) rfl dX5_stepOn_222 ?_
                    refine lv_bipush (v := 9) hx hb dX5_stepOn_225 (by decide) ?_
                    refine lv_aload_n hx hb dX5_stepOn_227 rfl (lv_at hl 0 rfl) ?_
                    obtain ⟨z_37, hz_37, hf⟩ := pB_out hf
                    refine gI (w' := (wM a0 a1 a2 a3 a4 a5 a6 a7 a8 a9 a10 a11 a12 a13 cI z_37.2)) (va_runV (As := []) (rest := [.int 9, .ref a2]) ⟨hx, hb, hml, hown, hts⟩ (ctX5_pop l D cI a0 a1 a2 a3 a4 a5 a6 a7 a8 a9 a10 a11 a12 a13 u z_37 hz_37 H.size) (cwV 0 hts gX5_stepOn_X5_pop rfl rfl rfl (by decide +kernel) ⟨Nat.le_of_ble_eq_true rfl, Nat.le_of_ble_eq_true rfl⟩) (gPreV (ci := 4) (C := RX5) (T := TX5) (N := 27) hP hK hD [0, 1, 2, 3, 4, 5, 6, 7, 8, 9, 10, 11, 12, 13] (by decide) rfl 0 rfl rfl) rfl rfl hl.1 rfl (lv_room (Nat.le_of_ble_eq_true rfl)) dX5_stepOn_228 ⟨Nat.le_of_ble_eq_true rfl, Nat.le_of_ble_eq_true rfl⟩) hP hD hS hA [0, 1, 2, 3, 4, 5, 6, 7, 8, 9, 10, 11, 12, 13] [] [0, 1, 2, 3, 4, 5, 6, 7, 8, 9, 10, 11, 12, 13] rfl rfl (by decide) (by decide) rfl (by decide) (fun H locs hP hD hS => ?_)
                    obtain ⟨h_38, hf⟩ := pIn_out hf
                    refine va_iast hx hb hK hP hD hS 2 0 rfl rfl h_38 dX5_stepOn_231 (fun H locs hP hD hS => ?_)
                    obtain ⟨u_39, eu_39, hf⟩ := pLet_out hf
                    replace hP : va_P D vwCl (wM a0 a1 a2 a3 a4 a5 a6 a7 a8 a9 a10 a11 a12 a13 cI u_39) H := by rw [eu_39]; exact hP
                    replace hD : va_D A (wM a0 a1 a2 a3 a4 a5 a6 a7 a8 a9 a10 a11 a12 a13 cI u_39) := by rw [eu_39]; exact hD
                    refine lv_goto (tgt := 301) hx hb dX5_stepOn_232 (by decide) ?_
                    have hz := Option.some.inj hf
                    subst hz
                    exact gRetV hx hb hr hlocks hK hP hD hS rfl dX5_stepOn_301
                  · replace hf := pI_f c_40 hf
                    by_cases c_43 : x_1 = 26
                    · replace hf := pI_t c_43 hf
                      refine lv_tableIn (tgt := 235) (off := 231) hx hb dX5_stepOn_4 (by rw [c_43]; decide) (by rw [c_43]; decide) (by rw [c_43]; rfl) (by decide) ?_
                      refine lv_aload_n hx hb dX5_stepOn_235 rfl (lv_at hl 0 rfl) ?_
                      refine lv_aload_n hx hb dX5_stepOn_236 rfl (lv_at hl 0 rfl) ?_
                      refine va_get (D := D) (ci := 4) (v := .ref a2) (C := RX5) (T := TX5) (N := 27) hx hb hts inX5_stepOn_X5 hown hK hP 0 rfl rfl 2 (by decide) (hts (.fieldLink RX5 13 "BlockCacheModel" "reg" "[I") (by decide +kernel)) (fun _ h9 => h9) rfl dX5_stepOn_237 ?_
                      refine lv_iload_n hx hb dX5_stepOn_240 rfl (lv_at hl 2 rfl) ?_
                      obtain ⟨h_41, hf⟩ := pIn_out hf
                      refine va_iald hx hb hK hP 2 0 rfl rfl h_41 dX5_stepOn_241 ?_
                      obtain ⟨z_42, hz_42, hf⟩ := pB_out hf
                      refine gV (w' := (wM a0 a1 a2 a3 a4 a5 a6 a7 a8 a9 a10 a11 a12 a13 cI z_42)) (va_runV (As := [.int ((gM_reg u) x2.toNatClampNeg)]) (rest := []) ⟨hx, hb, hml, hown, hts⟩ (ctX5_push l D cI a0 a1 a2 a3 a4 a5 a6 a7 a8 a9 a10 a11 a12 a13 u ((gM_reg u) x2.toNatClampNeg) z_42 hz_42 H.size) (cwV 1 hts gX5_stepOn_X5_push rfl rfl rfl (by decide +kernel) ⟨Nat.le_of_ble_eq_true rfl, Nat.le_of_ble_eq_true rfl⟩) (gPreV (ci := 4) (C := RX5) (T := TX5) (N := 27) hP hK hD [0, 1, 2, 3, 4, 5, 6, 7, 8, 9, 10, 11, 12, 13] (by decide) rfl 0 rfl rfl) rfl rfl hl.1 rfl (lv_room (Nat.le_of_ble_eq_true rfl)) dX5_stepOn_242 ⟨Nat.le_of_ble_eq_true rfl, Nat.le_of_ble_eq_true rfl⟩) hP hD hS hA [0, 1, 2, 3, 4, 5, 6, 7, 8, 9, 10, 11, 12, 13] [] [0, 1, 2, 3, 4, 5, 6, 7, 8, 9, 10, 11, 12, 13] rfl rfl (by decide) (by decide) rfl (by decide) (fun H locs hP hD hS => ?_)
                      refine lv_goto (tgt := 301) hx hb dX5_stepOn_245 (by decide) ?_
                      have hz := Option.some.inj hf
                      subst hz
                      exact gRetV hx hb hr hlocks hK hP hD hS rfl dX5_stepOn_301
                    · replace hf := pI_f c_43 hf
                      by_cases c_47 : x_1 = 27
                      · replace hf := pI_t c_47 hf
                        refine lv_tableIn (tgt := 248) (off := 244) hx hb dX5_stepOn_4 (by rw [c_47]; decide) (by rw [c_47]; decide) (by rw [c_47]; rfl) (by decide) ?_
                        refine lv_aload_n hx hb dX5_stepOn_248 rfl (lv_at hl 0 rfl) ?_
                        refine va_get (D := D) (ci := 4) (v := .ref a2) (C := RX5) (T := TX5) (N := 27) hx hb hts inX5_stepOn_X5 hown hK hP 0 rfl rfl 2 (by decide) (hts (.fieldLink RX5 13 "BlockCacheModel" "reg" "[I") (by decide +kernel)) (fun _ h9 => h9) rfl dX5_stepOn_249 ?_
                        refine lv_iload_n hx hb dX5_stepOn_252 rfl (lv_at hl 2 rfl) ?_
                        refine lv_aload_n hx hb dX5_stepOn_253 rfl (lv_at hl 0 rfl) ?_
                        obtain ⟨z_44, hz_44, hf⟩ := pB_out hf
                        refine gI (w' := (wM a0 a1 a2 a3 a4 a5 a6 a7 a8 a9 a10 a11 a12 a13 cI z_44.2)) (va_runV (As := []) (rest := [.int x2, .ref a2]) ⟨hx, hb, hml, hown, hts⟩ (ctX5_pop l D cI a0 a1 a2 a3 a4 a5 a6 a7 a8 a9 a10 a11 a12 a13 u z_44 hz_44 H.size) (cwV 0 hts gX5_stepOn_X5_pop rfl rfl rfl (by decide +kernel) ⟨Nat.le_of_ble_eq_true rfl, Nat.le_of_ble_eq_true rfl⟩) (gPreV (ci := 4) (C := RX5) (T := TX5) (N := 27) hP hK hD [0, 1, 2, 3, 4, 5, 6, 7, 8, 9, 10, 11, 12, 13] (by decide) rfl 0 rfl rfl) rfl rfl hl.1 rfl (lv_room (Nat.le_of_ble_eq_true rfl)) dX5_stepOn_254 ⟨Nat.le_of_ble_eq_true rfl, Nat.le_of_ble_eq_true rfl⟩) hP hD hS hA [0, 1, 2, 3, 4, 5, 6, 7, 8, 9, 10, 11, 12, 13] [] [0, 1, 2, 3, 4, 5, 6, 7, 8, 9, 10, 11, 12, 13] rfl rfl (by decide) (by decide) rfl (by decide) (fun H locs hP hD hS => ?_)
                        obtain ⟨h_45, hf⟩ := pIn_out hf
                        refine va_iast hx hb hK hP hD hS 2 0 rfl rfl h_45 dX5_stepOn_257 (fun H locs hP hD hS => ?_)
                        obtain ⟨u_46, eu_46, hf⟩ := pLet_out hf
                        replace hP : va_P D vwCl (wM a0 a1 a2 a3 a4 a5 a6 a7 a8 a9 a10 a11 a12 a13 cI u_46) H := by rw [eu_46]; exact hP
                        replace hD : va_D A (wM a0 a1 a2 a3 a4 a5 a6 a7 a8 a9 a10 a11 a12 a13 cI u_46) := by rw [eu_46]; exact hD
                        refine lv_goto (tgt := 301) hx hb dX5_stepOn_258 (by decide) ?_
                        have hz := Option.some.inj hf
                        subst hz
                        exact gRetV hx hb hr hlocks hK hP hD hS rfl dX5_stepOn_301
                      · replace hf := pI_f c_47 hf
                        have nc_9 := lv_neT (k := 17) (a := 17) c_9 (by decide)
                        have nc_11 := lv_neT (k := 18) (a := 18) c_11 (by decide)
                        have nc_14 := lv_neT (k := 19) (a := 19) c_14 (by decide)
                        have nc_20 := lv_neT (k := 20) (a := 20) c_20 (by decide)
                        have nc_25 := lv_neT (k := 21) (a := 21) c_25 (by decide)
                        have nc_29 := lv_neT (k := 22) (a := 22) c_29 (by decide)
                        have nc_32 := lv_neT (k := 23) (a := 23) c_32 (by decide)
                        have nc_36 := lv_neT (k := 24) (a := 24) c_36 (by decide)
                        have nc_40 := lv_neT (k := 25) (a := 25) c_40 (by decide)
                        have nc_43 := lv_neT (k := 26) (a := 26) c_43 (by decide)
                        have nc_47 := lv_neT (k := 27) (a := 27) c_47 (by decide)
                        refine lv_tableOut (tgt := 261) hx hb dX5_stepOn_4 (by omega) (by decide) ?_
                        refine lv_aload_n hx hb dX5_stepOn_261 rfl (lv_at hl 0 rfl) ?_
                        refine va_get (D := D) (ci := 4) (v := .ref a2) (C := RX5) (T := TX5) (N := 27) hx hb hts inX5_stepOn_X5 hown hK hP 0 rfl rfl 2 (by decide) (hts (.fieldLink RX5 13 "BlockCacheModel" "reg" "[I") (by decide +kernel)) (fun _ h9 => h9) rfl dX5_stepOn_262 ?_
                        refine lv_iload_n hx hb dX5_stepOn_265 rfl (lv_at hl 2 rfl) ?_
                        refine lv_aload_n hx hb dX5_stepOn_266 rfl (lv_at hl 0 rfl) ?_
                        refine va_get (D := D) (ci := 4) (v := .ref a2) (C := RX5) (T := TX5) (N := 27) hx hb hts inX5_stepOn_X5 hown hK hP 0 rfl rfl 2 (by decide) (hts (.fieldLink RX5 13 "BlockCacheModel" "reg" "[I") (by decide +kernel)) (fun _ h9 => h9) rfl dX5_stepOn_267 ?_
                        refine lv_iload_n hx hb dX5_stepOn_270 rfl (lv_at hl 2 rfl) ?_
                        obtain ⟨h_2, hf⟩ := pIn_out hf
                        refine va_iald hx hb hK hP 2 0 rfl rfl h_2 dX5_stepOn_271 ?_
                        refine lv_iconst (v := 1) hx hb dX5_stepOn_272 (by decide) ?_
                        refine lv_isub hx hb dX5_stepOn_273 ?_
                        refine lv_sipush (v := 255) hx hb dX5_stepOn_274 (by decide) ?_
                        refine lv_iand hx hb dX5_stepOn_277 ?_
                        obtain ⟨h_3, hf⟩ := pIn_out hf
                        refine va_iast hx hb hK hP hD hS 2 0 rfl rfl h_3 dX5_stepOn_278 (fun H locs hP hD hS => ?_)
                        obtain ⟨u_4, eu_4, hf⟩ := pLet_out hf
                        replace hP : va_P D vwCl (wM a0 a1 a2 a3 a4 a5 a6 a7 a8 a9 a10 a11 a12 a13 cI u_4) H := by rw [eu_4]; exact hP
                        replace hD : va_D A (wM a0 a1 a2 a3 a4 a5 a6 a7 a8 a9 a10 a11 a12 a13 cI u_4) := by rw [eu_4]; exact hD
                        refine lv_aload_n hx hb dX5_stepOn_279 rfl (lv_at hl 0 rfl) ?_
                        refine va_get (D := D) (ci := 4) (v := .ref a2) (C := RX5) (T := TX5) (N := 27) hx hb hts inX5_stepOn_X5 hown hK hP 0 rfl rfl 2 (by decide) (hts (.fieldLink RX5 13 "BlockCacheModel" "reg" "[I") (by decide +kernel)) (fun _ h9 => h9) rfl dX5_stepOn_280 ?_
                        refine lv_bipush (v := 9) hx hb dX5_stepOn_283 (by decide) ?_
                        refine lv_aload_n hx hb dX5_stepOn_285 rfl (lv_at hl 0 rfl) ?_
                        refine va_get (D := D) (ci := 4) (v := .ref a2) (C := RX5) (T := TX5) (N := 27) hx hb hts inX5_stepOn_X5 hown hK hP 0 rfl rfl 2 (by decide) (hts (.fieldLink RX5 13 "BlockCacheModel" "reg" "[I") (by decide +kernel)) (fun _ h9 => h9) rfl dX5_stepOn_286 ?_
                        refine lv_iload_n hx hb dX5_stepOn_289 rfl (lv_at hl 2 rfl) ?_
                        obtain ⟨h_5, hf⟩ := pIn_out hf
                        refine va_iald hx hb hK hP 2 0 rfl rfl h_5 dX5_stepOn_290 ?_
                        refine lv_if_eq (tgt := 298) hx hb dX5_stepOn_291 (by decide) (fun c_6 => ?_) (fun c_6 => ?_)
                        · replace hf := pI_t c_6 hf
                          refine lv_iload hx hb dX5_stepOn_298 (lv_at hl 5 rfl) ?_
                          exact wkX5_stepOn_b300 C0 _ _ _ _ H locs ls hf hP hD hS (lv_sub hl [] rfl)
                        · replace hf := pI_f c_6 hf
                          refine lv_iload_n hx hb dX5_stepOn_294 rfl (lv_at hl 1 rfl) ?_
                          refine lv_goto (tgt := 300) hx hb dX5_stepOn_295 (by decide) ?_
                          exact wkX5_stepOn_b300 C0 _ _ _ _ H locs ls hf hP hD hS (lv_sub hl [] rfl)
theorem ctX5_stepOn (l : Launch) (D : va_G) (cI : ClassId) (a0 a1 a2 a3 a4 a5 a6 a7 a8 a9 a10 a11 a12 a13 : Nat) (u : TM) (x1 : Int32) (x2 : Int32) (x3 : Int32) (x4 : Int32) (x5 : Int32) (z : TM) (hz : fX5_stepOn u x1 x2 x3 x4 x5 = some z) : CtV l yX5_stepOn wsX5_stepOn rmX5_stepOn D vwCl [(cI, .int)] [.ref a0, .int x1, .int x2, .int x3, .int x4, .int x5] (wM a0 a1 a2 a3 a4 a5 a6 a7 a8 a9 a10 a11 a12 a13 cI u) (wM a0 a1 a2 a3 a4 a5 a6 a7 a8 a9 a10 a11 a12 a13 cI z) :=
  ctV_of (cc := cX5_stepOn) (maxL := 7) (ret := none) (by decide) rfl (Nat.le_of_ble_eq_true rfl) (fun p e s m below meth c A ls C hl hP hD hS => wkX5_stepOn C z _ _ _ _ _ _ s.heap [] ls hz hP hD hS hl)

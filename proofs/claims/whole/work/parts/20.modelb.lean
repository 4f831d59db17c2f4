abbrev rmX5_sizeOf : Room := { frames := 0, cells := 0, slots := 0, locals := 0 }
set_option maxRecDepth 100000 in
set_option maxHeartbeats 4000000 in
theorem wkX5_sizeOf {p : Program} {l : Launch} {e : Env} {s : State} {m : MethodId} {args : Array Value} {below : List Frame} {meth : Method} {c : Code} {D : va_G} {cI : ClassId} {A : Nat → Prop} (C : cxt p s m args meth c cX5_sizeOf (some .int) 1 RX5 wsX5_sizeOf D vwCl [(cI, .int)] A) : ∀ (z : Int32) (x0 : Int32) (H : Heap) (locs : List Loc) (ls : Array Slot), fX5_sizeOf x0 = z → va_P D vwCl ([] : va_W) H → va_D A ([] : va_W) → va_S A s.heap H locs → lv_has ls 1 [(0, .int x0)] → W p l e rmX5_sizeOf s m args below meth c H locs 0 0 (MQ below (oI D vwCl [(cI, .int)] A z ([] : va_W)) args s 0 0 A) (F0 m 0 ls []) := by
  have C0 := C
  obtain ⟨hx, hb, hr, hml, hown, hts, hlocks, hK, hA⟩ := C
  intro z x0 H locs ls hf hP hD hS hl
  unfold fX5_sizeOf at hf
  refine lv_iload_n hx hb dX5_sizeOf_0 rfl (lv_at hl 0 rfl) ?_
  by_cases c_1 : x0 = 7
  · replace hf := pI_t c_1 hf
    refine lv_tableIn (tgt := 104) (off := 103) hx hb dX5_sizeOf_1 (by rw [c_1]; decide) (by rw [c_1]; decide) (by rw [c_1]; rfl) (by decide) ?_
    refine lv_iconst (v := 2) hx hb dX5_sizeOf_104 (by decide) ?_
    have hz := hf
    subst hz
    exact gRetI hx hb hr hlocks hK hP hD hS rfl rfl dX5_sizeOf_105
  · replace hf := pI_f c_1 hf
    by_cases c_2 : x0 = 8
    · replace hf := pI_t c_2 hf
      refine lv_tableIn (tgt := 106) (off := 105) hx hb dX5_sizeOf_1 (by rw [c_2]; decide) (by rw [c_2]; decide) (by rw [c_2]; rfl) (by decide) ?_
      refine lv_iconst (v := 3) hx hb dX5_sizeOf_106 (by decide) ?_
      have hz := hf
      subst hz
      exact gRetI hx hb hr hlocks hK hP hD hS rfl rfl dX5_sizeOf_107
    · replace hf := pI_f c_2 hf
      by_cases c_3 : x0 = 9
      · replace hf := pI_t c_3 hf
        refine lv_tableIn (tgt := 104) (off := 103) hx hb dX5_sizeOf_1 (by rw [c_3]; decide) (by rw [c_3]; decide) (by rw [c_3]; rfl) (by decide) ?_
        refine lv_iconst (v := 2) hx hb dX5_sizeOf_104 (by decide) ?_
        have hz := hf
        subst hz
        exact gRetI hx hb hr hlocks hK hP hD hS rfl rfl dX5_sizeOf_105
      · replace hf := pI_f c_3 hf
        by_cases c_4 : x0 = 10
        · replace hf := pI_t c_4 hf
          refine lv_tableIn (tgt := 104) (off := 103) hx hb dX5_sizeOf_1 (by rw [c_4]; decide) (by rw [c_4]; decide) (by rw [c_4]; rfl) (by decide) ?_
          refine lv_iconst (v := 2) hx hb dX5_sizeOf_104 (by decide) ?_
          have hz := hf
          subst hz
          exact gRetI hx hb hr hlocks hK hP hD hS rfl rfl dX5_sizeOf_105
        · replace hf := pI_f c_4 hf
          by_cases c_5 : x0 = 13
          · replace hf := pI_t c_5 hf
            refine lv_tableIn (tgt := 104) (off := 103) hx hb dX5_sizeOf_1 (by rw [c_5]; decide) (by rw [c_5]; decide) (by rw [c_5]; rfl) (by decide) ?_
            refine lv_iconst (v := 2) hx hb dX5_sizeOf_104 (by decide) ?_
            have hz := hf
            subst hz
            exact gRetI hx hb hr hlocks hK hP hD hS rfl rfl dX5_sizeOf_105
          · replace hf := pI_f c_5 hf
            by_cases c_6 : x0 = 15
            · replace hf := pI_t c_6 hf
              refine lv_tableIn (tgt := 106) (off := 105) hx hb dX5_sizeOf_1 (by rw [c_6]; decide) (by rw [c_6]; decide) (by rw [c_6]; rfl) (by decide) ?_
              refine lv_iconst (v := 3) hx hb dX5_sizeOf_106 (by decide) ?_
              have hz := hf
              subst hz
              exact gRetI hx hb hr hlocks hK hP hD hS rfl rfl dX5_sizeOf_107
            · replace hf := pI_f c_6 hf
              by_cases c_7 : x0 = 16
              · replace hf := pI_t c_7 hf
                refine lv_tableIn (tgt := 106) (off := 105) hx hb dX5_sizeOf_1 (by rw [c_7]; decide) (by rw [c_7]; decide) (by rw [c_7]; rfl) (by decide) ?_
                refine lv_iconst (v := 3) hx hb dX5_sizeOf_106 (by decide) ?_
                have hz := hf
                subst hz
                exact gRetI hx hb hr hlocks hK hP hD hS rfl rfl dX5_sizeOf_107
              · replace hf := pI_f c_7 hf
                by_cases c_8 : x0 = 18
                · replace hf := pI_t c_8 hf
                  refine lv_tableIn (tgt := 106) (off := 105) hx hb dX5_sizeOf_1 (by rw [c_8]; decide) (by rw [c_8]; decide) (by rw [c_8]; rfl) (by decide) ?_
                  refine lv_iconst (v := 3) hx hb dX5_sizeOf_106 (by decide) ?_
                  have hz := hf
                  subst hz
                  exact gRetI hx hb hr hlocks hK hP hD hS rfl rfl dX5_sizeOf_107
                · replace hf := pI_f c_8 hf
                  by_cases c_9 : x0 = 19
                  · replace hf := pI_t c_9 hf
                    refine lv_tableIn (tgt := 106) (off := 105) hx hb dX5_sizeOf_1 (by rw [c_9]; decide) (by rw [c_9]; decide) (by rw [c_9]; rfl) (by decide) ?_
                    refine lv_iconst (v := 3) hx hb dX5_sizeOf_106 (by decide) ?_
                    have hz := hf
                    subst hz
                    exact gRetI hx hb hr hlocks hK hP hD hS rfl rfl dX5_sizeOf_107
                  · replace hf := pI_f c_9 hf
                    by_cases c_10 : x0 = 20
                    · replace hf := pI_t c_10 hf
                      refine lv_tableIn (tgt := 104) (off := 103) hx hb dX5_sizeOf_1 (by rw [c_10]; decide) (by rw [c_10]; decide) (by rw [c_10]; rfl) (by decide) ?_
                      refine lv_iconst (v := 2) hx hb dX5_sizeOf_104 (by decide) ?_
                      have hz := hf
                      subst hz
                      exact gRetI hx hb hr hlocks hK hP hD hS rfl rfl dX5_sizeOf_105
                    · replace hf := pI_f c_10 hf
                      by_cases c_11 : x0 = 21
                      · replace hf := pI_t c_11 hf
                        refine lv_tableIn (tgt := 108) (off := 107) hx hb dX5_sizeOf_1 (by rw [c_11]; decide) (by rw [c_11]; decide) (by rw [c_11]; rfl) (by decide) ?_
                        refine lv_iconst (v := 4) hx hb dX5_sizeOf_108 (by decide) ?_
                        have hz := hf
                        subst hz
                        exact gRetI hx hb hr hlocks hK hP hD hS rfl rfl dX5_sizeOf_109
                      · replace hf := pI_f c_11 hf
                        by_cases c_12 : x0 = 22
                        · replace hf := pI_t c_12 hf
                          refine lv_tableIn (tgt := 108) (off := 107) hx hb dX5_sizeOf_1 (by rw [c_12]; decide) (by rw [c_12]; decide) (by rw [c_12]; rfl) (by decide) ?_
                          refine lv_iconst (v := 4) hx hb dX5_sizeOf_108 (by decide) ?_
                          have hz := hf
                          subst hz
                          exact gRetI hx hb hr hlocks hK hP hD hS rfl rfl dX5_sizeOf_109
                        · replace hf := pI_f c_12 hf
                          by_cases c_13 : x0 = 24
                          · replace hf := pI_t c_13 hf
                            refine lv_tableIn (tgt := 106) (off := 105) hx hb dX5_sizeOf_1 (by rw [c_13]; decide) (by rw [c_13]; decide) (by rw [c_13]; rfl) (by decide) ?_
                            refine lv_iconst (v := 3) hx hb dX5_sizeOf_106 (by decide) ?_
                            have hz := hf
                            subst hz
                            exact gRetI hx hb hr hlocks hK hP hD hS rfl rfl dX5_sizeOf_107
                          · replace hf := pI_f c_13 hf
                            by_cases c_14 : x0 = 25
                            · replace hf := pI_t c_14 hf
                              refine lv_tableIn (tgt := 104) (off := 103) hx hb dX5_sizeOf_1 (by rw [c_14]; decide) (by rw [c_14]; decide) (by rw [c_14]; rfl) (by decide) ?_
                              refine lv_iconst (v := 2) hx hb dX5_sizeOf_104 (by decide) ?_
                              have hz := hf
                              subst hz
                              exact gRetI hx hb hr hlocks hK hP hD hS rfl rfl dX5_sizeOf_105
                            · replace hf := pI_f c_14 hf
                              by_cases c_15 : x0 = 28
                              · replace hf := pI_t c_15 hf
                                refine lv_tableIn (tgt := 108) (off := 107) hx hb dX5_sizeOf_1 (by rw [c_15]; decide) (by rw [c_15]; decide) (by rw [c_15]; rfl) (by decide) ?_
                                refine lv_iconst (v := 4) hx hb dX5_sizeOf_108 (by decide) ?_
                                have hz := hf
                                subst hz
                                exact gRetI hx hb hr hlocks hK hP hD hS rfl rfl dX5_sizeOf_109
                              · replace hf := pI_f c_15 hf
                                have hdef : W p l e rmX5_sizeOf s m args below meth c H locs 0 0 (MQ below (oI D vwCl [(cI, .int)] A z ([] : va_W)) args s 0 0 A) (F0 m 110 ls []) := by
                                  refine lv_iconst (v := 1) hx hb dX5_sizeOf_110 (by decide) ?_
                                  have hz := hf
                                  subst hz
                                  exact gRetI hx hb hr hlocks hK hP hD hS rfl rfl dX5_sizeOf_111
                                by_cases c_16 : x0 = 11
                                · refine lv_tableIn (tgt := 110) (off := 109) hx hb dX5_sizeOf_1 (by rw [c_16]; decide) (by rw [c_16]; decide) (by rw [c_16]; rfl) (by decide) ?_
                                  exact hdef
                                by_cases c_17 : x0 = 12
                                · refine lv_tableIn (tgt := 110) (off := 109) hx hb dX5_sizeOf_1 (by rw [c_17]; decide) (by rw [c_17]; decide) (by rw [c_17]; rfl) (by decide) ?_
                                  exact hdef
                                by_cases c_18 : x0 = 14
                                · refine lv_tableIn (tgt := 110) (off := 109) hx hb dX5_sizeOf_1 (by rw [c_18]; decide) (by rw [c_18]; decide) (by rw [c_18]; rfl) (by decide) ?_
                                  exact hdef
                                by_cases c_19 : x0 = 17
                                · refine lv_tableIn (tgt := 110) (off := 109) hx hb dX5_sizeOf_1 (by rw [c_19]; decide) (by rw [c_19]; decide) (by rw [c_19]; rfl) (by decide) ?_
                                  exact hdef
                                by_cases c_20 : x0 = 23
                                · refine lv_tableIn (tgt := 110) (off := 109) hx hb dX5_sizeOf_1 (by rw [c_20]; decide) (by rw [c_20]; decide) (by rw [c_20]; rfl) (by decide) ?_
                                  exact hdef
                                by_cases c_21 : x0 = 26
                                · refine lv_tableIn (tgt := 110) (off := 109) hx hb dX5_sizeOf_1 (by rw [c_21]; decide) (by rw [c_21]; decide) (by rw [c_21]; rfl) (by decide) ?_
                                  exact hdef
                                by_cases c_22 : x0 = 27
                                · refine lv_tableIn (tgt := 110) (off := 109) hx hb dX5_sizeOf_1 (by rw [c_22]; decide) (by rw [c_22]; decide) (by rw [c_22]; rfl) (by decide) ?_
                                  exact hdef
                                have nc_1 := lv_neT (k := 7) (a := 7) c_1 (by decide)
                                have nc_2 := lv_neT (k := 8) (a := 8) c_2 (by decide)
                                have nc_3 := lv_neT (k := 9) (a := 9) c_3 (by decide)
                                have nc_4 := lv_neT (k := 10) (a := 10) c_4 (by decide)
                                have nc_5 := lv_neT (k := 13) (a := 13) c_5 (by decide)
                                have nc_6 := lv_neT (k := 15) (a := 15) c_6 (by decide)
                                have nc_7 := lv_neT (k := 16) (a := 16) c_7 (by decide)
                                have nc_8 := lv_neT (k := 18) (a := 18) c_8 (by decide)
                                have nc_9 := lv_neT (k := 19) (a := 19) c_9 (by decide)
                                have nc_10 := lv_neT (k := 20) (a := 20) c_10 (by decide)
                                have nc_11 := lv_neT (k := 21) (a := 21) c_11 (by decide)
                                have nc_12 := lv_neT (k := 22) (a := 22) c_12 (by decide)
                                have nc_13 := lv_neT (k := 24) (a := 24) c_13 (by decide)
                                have nc_14 := lv_neT (k := 25) (a := 25) c_14 (by decide)
                                have nc_15 := lv_neT (k := 28) (a := 28) c_15 (by decide)
                                have nc_16 := lv_neT (k := 11) (a := 11) c_16 (by decide)
                                have nc_17 := lv_neT (k := 12) (a := 12) c_17 (by decide)
                                have nc_18 := lv_neT (k := 14) (a := 14) c_18 (by decide)
                                have nc_19 := lv_neT (k := 17) (a := 17) c_19 (by decide)
                                have nc_20 := lv_neT (k := 23) (a := 23) c_20 (by decide)
                                have nc_21 := lv_neT (k := 26) (a := 26) c_21 (by decide)
                                have nc_22 := lv_neT (k := 27) (a := 27) c_22 (by decide)
                                refine lv_tableOut (tgt := 110) hx hb dX5_sizeOf_1 (by omega) (by decide) ?_
                                exact hdef
theorem ctX5_sizeOf (l : Launch) (D : va_G) (cI : ClassId) (x0 : Int32) (z : Int32) (hz : fX5_sizeOf x0 = z) : CtI l yX5_sizeOf wsX5_sizeOf rmX5_sizeOf D vwCl [(cI, .int)] [.int x0] ([] : va_W) z ([] : va_W) :=
  ctI_of (cc := cX5_sizeOf) (maxL := 1) (ret := (some .int)) (by decide) rfl (Nat.le_of_ble_eq_true rfl) (fun p e s m below meth c A ls C hl hP hD hS => wkX5_sizeOf C z _ s.heap [] ls hz hP hD hS hl)
abbrev rmX5_find : Room := { frames := 2, cells := 0, slots := 0, locals := 44 }
theorem inX5_find_X5 : ∀ w ∈ wsX50, w ∈ wsX5_find := by decide +kernel
set_option maxRecDepth 100000 in
set_option maxHeartbeats 4000000 in
theorem wkX5_find_b340 {p : Program} {l : Launch} {e : Env} {s : State} {m : MethodId} {args : Array Value} {below : List Frame} {meth : Method} {c : Code} {D : va_G} {cI : ClassId} {A : Nat → Prop} {a0 a1 a2 a3 a4 a5 a6 a7 a8 a9 a10 a11 a12 a13 : Nat} (C : cxt p s m args meth c cX5_find none 7 RX5 wsX5_find D vwCl [(cI, .int)] A) {K27 : TM → Int32 → Int32 → Int32 → Option (TM)} (hK27 : ∀ (z : TM) (u : TM) (x2 : Int32) (x3 : Int32) (x4 : Int32) (H : Heap) (locs : List Loc) (ls : Array Slot), K27 u x2 x3 x4 = some z → va_P D vwCl (wM a0 a1 a2 a3 a4 a5 a6 a7 a8 a9 a10 a11 a12 a13 cI u) H → va_D A (wM a0 a1 a2 a3 a4 a5 a6 a7 a8 a9 a10 a11 a12 a13 cI u) → va_S A s.heap H locs → lv_has ls 7 [(0, .ref a0), (2, .int x2), (3, .int x3), (4, .int x4)] → W p l e rmX5_find s m args below meth c H locs 0 0 (MQ below (oV D vwCl [(cI, .int)] A (wM a0 a1 a2 a3 a4 a5 a6 a7 a8 a9 a10 a11 a12 a13 cI z)) args s 0 0 A) (F0 m 27 ls [])) : ∀ (z : TM) (u : TM) (x2 : Int32) (x4 : Int32) (y0 : Int32) (H : Heap) (locs : List Loc) (ls : Array Slot), fX5_find_b340 K27 u x2 x4 y0 = some z → va_P D vwCl (wM a0 a1 a2 a3 a4 a5 a6 a7 a8 a9 a10 a11 a12 a13 cI u) H → va_D A (wM a0 a1 a2 a3 a4 a5 a6 a7 a8 a9 a10 a11 a12 a13 cI u) → va_S A s.heap H locs → lv_has ls 7 [(0, .ref a0), (2, .int x2), (4, .int x4)] → W p l e rmX5_find s m args below meth c H locs 0 0 (MQ below (oV D vwCl [(cI, .int)] A (wM a0 a1 a2 a3 a4 a5 a6 a7 a8 a9 a10 a11 a12 a13 cI z)) args s 0 0 A) (F0 m 340 ls [.int y0]) := by
  have C0 := C
  obtain ⟨hx, hb, hr, hml, hown, hts, hlocks, hK, hA⟩ := C
  intro z u x2 x4 y0 H locs ls hf hP hD hS hl
  unfold fX5_find_b340 at hf
  refine lv_istore_n (lv' := [(3, .int y0), (0, .ref a0), (2, .int x2), (4, .int x4)]) hx hb dX5_find_340 rfl hl (by decide) rfl (fun ls hl => ?_)
  refine lv_goto (tgt := 27) hx hb dX5_find_341 (by decide) ?_
  exact hK27 _ _ _ _ _ H locs ls hf hP hD hS (lv_sub hl [1, 2, 0, 3] rfl)
set_option maxRecDepth 100000 in
set_option maxHeartbeats 4000000 in
theorem wkX5_find_b339 {p : Program} {l : Launch} {e : Env} {s : State} {m : MethodId} {args : Array Value} {below : List Frame} {meth : Method} {c : Code} {D : va_G} {cI : ClassId} {A : Nat → Prop} {a0 a1 a2 a3 a4 a5 a6 a7 a8 a9 a10 a11 a12 a13 : Nat} (C : cxt p s m args meth c cX5_find none 7 RX5 wsX5_find D vwCl [(cI, .int)] A) {K27 : TM → Int32 → Int32 → Int32 → Option (TM)} (hK27 : ∀ (z : TM) (u : TM) (x2 : Int32) (x3 : Int32) (x4 : Int32) (H : Heap) (locs : List Loc) (ls : Array Slot), K27 u x2 x3 x4 = some z → va_P D vwCl (wM a0 a1 a2 a3 a4 a5 a6 a7 a8 a9 a10 a11 a12 a13 cI u) H → va_D A (wM a0 a1 a2 a3 a4 a5 a6 a7 a8 a9 a10 a11 a12 a13 cI u) → va_S A s.heap H locs → lv_has ls 7 [(0, .ref a0), (2, .int x2), (3, .int x3), (4, .int x4)] → W p l e rmX5_find s m args below meth c H locs 0 0 (MQ below (oV D vwCl [(cI, .int)] A (wM a0 a1 a2 a3 a4 a5 a6 a7 a8 a9 a10 a11 a12 a13 cI z)) args s 0 0 A) (F0 m 27 ls [])) : ∀ (z : TM) (u : TM) (x2 : Int32) (x4 : Int32) (H : Heap) (locs : List Loc) (ls : Array Slot), fX5_find_b339 K27 u x2 x4 = some z → va_P D vwCl (wM a0 a1 a2 a3 a4 a5 a6 a7 a8 a9 a10 a11 a12 a13 cI u) H → va_D A (wM a0 a1 a2 a3 a4 a5 a6 a7 a8 a9 a10 a11 a12 a13 cI u) → va_S A s.heap H locs → lv_has ls 7 [(0, .ref a0), (2, .int x2), (4, .int x4)] → W p l e rmX5_find s m args below meth c H locs 0 0 (MQ below (oV D vwCl [(cI, .int)] A (wM a0 a1 a2 a3 a4 a5 a6 a7 a8 a9 a10 a11 a12 a13 cI z)) args s 0 0 A) (F0 m 339 ls []) := by
  have C0 := C
  obtain ⟨hx, hb, hr, hml, hown, hts, hlocks, hK, hA⟩ := C
  intro z u x2 x4 H locs ls hf hP hD hS hl
  unfold fX5_find_b339 at hf
  refine lv_iconst (v := 0) hx hb dX5_find_339 (by decide) ?_
  exact wkX5_find_b340 C0 hK27 _ _ _ _ _ H locs ls hf hP hD hS (lv_sub hl [0, 1, 2] rfl)
set_option maxRecDepth 100000 in
set_option maxHeartbeats 4000000 in
theorem wkX5_find_b268 {p : Program} {l : Launch} {e : Env} {s : State} {m : MethodId} {args : Array Value} {below : List Frame} {meth : Method} {c : Code} {D : va_G} {cI : ClassId} {A : Nat → Prop} {a0 a1 a2 a3 a4 a5 a6 a7 a8 a9 a10 a11 a12 a13 : Nat} (C : cxt p s m args meth c cX5_find none 7 RX5 wsX5_find D vwCl [(cI, .int)] A) {K27 : TM → Int32 → Int32 → Int32 → Option (TM)} (hK27 : ∀ (z : TM) (u : TM) (x2 : Int32) (x3 : Int32) (x4 : Int32) (H : Heap) (locs : List Loc) (ls : Array Slot), K27 u x2 x3 x4 = some z → va_P D vwCl (wM a0 a1 a2 a3 a4 a5 a6 a7 a8 a9 a10 a11 a12 a13 cI u) H → va_D A (wM a0 a1 a2 a3 a4 a5 a6 a7 a8 a9 a10 a11 a12 a13 cI u) → va_S A s.heap H locs → lv_has ls 7 [(0, .ref a0), (2, .int x2), (3, .int x3), (4, .int x4)] → W p l e rmX5_find s m args below meth c H locs 0 0 (MQ below (oV D vwCl [(cI, .int)] A (wM a0 a1 a2 a3 a4 a5 a6 a7 a8 a9 a10 a11 a12 a13 cI z)) args s 0 0 A) (F0 m 27 ls [])) : ∀ (fu : Nat) (z : TM) (u : TM) (x2 : Int32) (x4 : Int32) (x6 : Int32) (H : Heap) (locs : List Loc) (ls : Array Slot), fX5_find_b268 K27 fu u x2 x4 x6 = some z → va_P D vwCl (wM a0 a1 a2 a3 a4 a5 a6 a7 a8 a9 a10 a11 a12 a13 cI u) H → va_D A (wM a0 a1 a2 a3 a4 a5 a6 a7 a8 a9 a10 a11 a12 a13 cI u) → va_S A s.heap H locs → lv_has ls 7 [(0, .ref a0), (2, .int x2), (4, .int x4), (6, .int x6)] → W p l e rmX5_find s m args below meth c H locs 0 0 (MQ below (oV D vwCl [(cI, .int)] A (wM a0 a1 a2 a3 a4 a5 a6 a7 a8 a9 a10 a11 a12 a13 cI z)) args s 0 0 A) (F0 m 268 ls []) := by
  have C0 := C
  obtain ⟨hx, hb, hr, hml, hown, hts, hlocks, hK, hA⟩ := C
  intro fu
  induction fu with
  | zero =>
    intro z u x2 x4 x6 H locs ls hf hP hD hS hl
    cases hf
  | succ nn ih =>
    intro z u x2 x4 x6 H locs ls hf hP hD hS hl
    simp only [fX5_find_b268] at hf
    refine lv_iload hx hb dX5_find_268 (lv_at hl 3 rfl) ?_
    refine lv_aload_n hx hb dX5_find_270 rfl (lv_at hl 0 rfl) ?_
    refine va_get (D := D) (ci := 4) (v := .int (gM_bytes u)) (C := RX5) (T := TX5) (N := 27) hx hb hts inX5_find_X5 hown hK hP 0 rfl rfl 19 (by decide) (hts (.fieldLink RX5 69 "BlockCacheModel" "bytes" "I") (by decide +kernel)) (fun _ h9 => h9) rfl dX5_find_271 ?_
    refine lv_icmp_ge (tgt := 305) hx hb dX5_find_274 (by decide) (fun c_1 => ?_) (fun c_1 => ?_)
    · replace hf := pI_t c_1 hf
      refine lv_iload_n hx hb dX5_find_305 rfl (lv_at hl 1 rfl) ?_
      refine lv_aload_n hx hb dX5_find_306 rfl (lv_at hl 0 rfl) ?_
      refine va_get (D := D) (ci := 4) (v := .int (gM_bytes u)) (C := RX5) (T := TX5) (N := 27) hx hb hts inX5_find_X5 hown hK hP 0 rfl rfl 19 (by decide) (hts (.fieldLink RX5 69 "BlockCacheModel" "bytes" "I") (by decide +kernel)) (fun _ h9 => h9) rfl dX5_find_307 ?_
      refine lv_iadd hx hb dX5_find_310 ?_
      refine lv_sipush (v := 255) hx hb dX5_find_311 (by decide) ?_
      refine lv_iand hx hb dX5_find_314 ?_
      obtain ⟨x_2, ex_2, hf⟩ := pLet_out hf
      refine gTop ex_2 ?_
      refine lv_istore_n (lv' := [(2, .int x_2), (0, .ref a0), (4, .int x4), (6, .int x6)]) hx hb dX5_find_315 rfl hl (by decide) rfl (fun ls hl => ?_)
      refine lv_aload_n hx hb dX5_find_316 rfl (lv_at hl 1 rfl) ?_
      refine va_get (D := D) (ci := 4) (v := .int (gM_kind u)) (C := RX5) (T := TX5) (N := 27) hx hb hts inX5_find_X5 hown hK hP 0 rfl rfl 18 (by decide) (hts (.fieldLink RX5 66 "BlockCacheModel" "kind" "I") (by decide +kernel)) (fun _ h9 => h9) rfl dX5_find_317 ?_
      obtain ⟨z_3, hz_3, hf⟩ := pLet_out hf
      refine gI0 (va_runS (As := [.int (gM_kind u)]) (rest := []) ⟨hx, hb, hml, hown, hts⟩ (ctX5_ends l D cI (gM_kind u) z_3 hz_3.symm H.size) (va_cwS 1 hts gX5_find_X5_ends rfl rfl rfl (by decide +kernel) ⟨Nat.le_of_ble_eq_true rfl, Nat.le_of_ble_eq_true rfl⟩) (gPreS hP hK hD [] (by decide) rfl) rfl rfl hl.1 rfl (lv_room (Nat.le_of_ble_eq_true rfl)) dX5_find_320 ⟨Nat.le_of_ble_eq_true rfl, Nat.le_of_ble_eq_true rfl⟩) hP hD hS hA (fun H locs hP hS => ?_)
      refine lv_if_ne (tgt := 339) hx hb dX5_find_323 (by decide) (fun c_4 => ?_) (fun c_4 => ?_)
      · replace hf := pI_f c_4 hf
        exact wkX5_find_b339 C0 hK27 _ _ _ _ H locs ls hf hP hD hS (lv_sub hl [1, 0, 2] rfl)
      · replace hf := pI_t c_4 hf
        refine lv_aload_n hx hb dX5_find_326 rfl (lv_at hl 1 rfl) ?_
        refine va_get (D := D) (ci := 4) (v := .int (gM_foundMany u)) (C := RX5) (T := TX5) (N := 27) hx hb hts inX5_find_X5 hown hK hP 0 rfl rfl 20 (by decide) (hts (.fieldLink RX5 76 "BlockCacheModel" "foundMany" "I") (by decide +kernel)) (fun _ h9 => h9) rfl dX5_find_327 ?_
        refine lv_bipush (v := 8) hx hb dX5_find_330 (by decide) ?_
        refine lv_icmp_ge (tgt := 339) hx hb dX5_find_332 (by decide) (fun c_5 => ?_) (fun c_5 => ?_)
        · replace hf := pI_t c_5 hf
          exact wkX5_find_b339 C0 hK27 _ _ _ _ H locs ls hf hP hD hS (lv_sub hl [1, 0, 2] rfl)
        · replace hf := pI_f c_5 hf
          refine lv_iconst (v := 1) hx hb dX5_find_335 (by decide) ?_
          refine lv_goto (tgt := 340) hx hb dX5_find_336 (by decide) ?_
          exact wkX5_find_b340 C0 hK27 _ _ _ _ _ H locs ls hf hP hD hS (lv_sub hl [1, 0, 2] rfl)
    · replace hf := pI_f c_1 hf
      refine lv_aload_n hx hb dX5_find_277 rfl (lv_at hl 0 rfl) ?_
      refine lv_aload_n hx hb dX5_find_278 rfl (lv_at hl 0 rfl) ?_
      refine va_get (D := D) (ci := 4) (v := .int (gM_foundPages u)) (C := RX5) (T := TX5) (N := 27) hx hb hts inX5_find_X5 hown hK hP 0 rfl rfl 22 (by decide) (hts (.fieldLink RX5 82 "BlockCacheModel" "foundPages" "I") (by decide +kernel)) (fun _ h9 => h9) rfl dX5_find_279 ?_
      refine lv_iconst (v := 1) hx hb dX5_find_282 (by decide) ?_
      refine lv_iload_n hx hb dX5_find_283 rfl (lv_at hl 1 rfl) ?_
      refine lv_iload hx hb dX5_find_284 (lv_at hl 3 rfl) ?_
      refine lv_iadd hx hb dX5_find_286 ?_
      refine lv_sipush (v := 255) hx hb dX5_find_287 (by decide) ?_
      refine lv_iand hx hb dX5_find_290 ?_
      refine lv_bipush (v := 32) hx hb dX5_find_291 (by decide) ?_
      refine lv_idiv hx hb dX5_find_293 (by decide) ?_
      refine lv_ishl hx hb dX5_find_294 ?_
      refine lv_ior hx hb dX5_find_295 ?_
      refine va_put (D := D) (ci := 4) (v := .int ((gM_foundPages u) ||| ((1 : Int32) <<< (((((x2 + x6) &&& 255) / 32) : Int32) &&& 31)))) (ty := .int) (C := RX5) (T := TX5) (N := 27) hx hb hts inX5_find_X5 tyX5 tyX5_ok nmX5 hown hK hP hD hS 0 rfl rfl 22 (by decide) (hts (.fieldLink RX5 82 "BlockCacheModel" "foundPages" "I") (by decide +kernel)) (fun _ h9 => h9) rfl (by decide +kernel) rfl rfl (Nat.le_of_ble_eq_true rfl) dX5_find_296 (fun H locs hP hD hS => ?_)
      obtain ⟨u_6, eu_6, hf⟩ := pLet_out hf
      replace hP : va_P D vwCl (wM a0 a1 a2 a3 a4 a5 a6 a7 a8 a9 a10 a11 a12 a13 cI u_6) H := by rw [eu_6]; exact hP
      replace hD : va_D A (wM a0 a1 a2 a3 a4 a5 a6 a7 a8 a9 a10 a11 a12 a13 cI u_6) := by rw [eu_6]; exact hD
      obtain ⟨x_7, ex_7, hf⟩ := pLet_out hf
      refine lv_iinc (v := x_7) (lv' := [(6, .int x_7), (0, .ref a0), (2, .int x2), (4, .int x4)]) hx hb dX5_find_299 hl (k := 3) rfl (by rw [ex_7]; rfl) (by decide) rfl (fun ls hl => ?_)
      refine lv_goto (tgt := 268) hx hb dX5_find_302 (by decide) ?_
      exact ih _ _ _ _ _ H locs ls hf hP hD hS (lv_sub hl [1, 2, 3, 0] rfl)
set_option maxRecDepth 100000 in
set_option maxHeartbeats 4000000 in
theorem wkX5_find_b255 {p : Program} {l : Launch} {e : Env} {s : State} {m : MethodId} {args : Array Value} {below : List Frame} {meth : Method} {c : Code} {D : va_G} {cI : ClassId} {A : Nat → Prop} {a0 a1 a2 a3 a4 a5 a6 a7 a8 a9 a10 a11 a12 a13 : Nat} (C : cxt p s m args meth c cX5_find none 7 RX5 wsX5_find D vwCl [(cI, .int)] A) {K27 : TM → Int32 → Int32 → Int32 → Option (TM)} (hK27 : ∀ (z : TM) (u : TM) (x2 : Int32) (x3 : Int32) (x4 : Int32) (H : Heap) (locs : List Loc) (ls : Array Slot), K27 u x2 x3 x4 = some z → va_P D vwCl (wM a0 a1 a2 a3 a4 a5 a6 a7 a8 a9 a10 a11 a12 a13 cI u) H → va_D A (wM a0 a1 a2 a3 a4 a5 a6 a7 a8 a9 a10 a11 a12 a13 cI u) → va_S A s.heap H locs → lv_has ls 7 [(0, .ref a0), (2, .int x2), (3, .int x3), (4, .int x4)] → W p l e rmX5_find s m args below meth c H locs 0 0 (MQ below (oV D vwCl [(cI, .int)] A (wM a0 a1 a2 a3 a4 a5 a6 a7 a8 a9 a10 a11 a12 a13 cI z)) args s 0 0 A) (F0 m 27 ls [])) : ∀ (z : TM) (u : TM) (x2 : Int32) (x4 : Int32) (H : Heap) (locs : List Loc) (ls : Array Slot), fX5_find_b255 K27 u x2 x4 = some z → va_P D vwCl (wM a0 a1 a2 a3 a4 a5 a6 a7 a8 a9 a10 a11 a12 a13 cI u) H → va_D A (wM a0 a1 a2 a3 a4 a5 a6 a7 a8 a9 a10 a11 a12 a13 cI u) → va_S A s.heap H locs → lv_has ls 7 [(0, .ref a0), (2, .int x2), (4, .int x4)] → W p l e rmX5_find s m args below meth c H locs 0 0 (MQ below (oV D vwCl [(cI, .int)] A (wM a0 a1 a2 a3 a4 a5 a6 a7 a8 a9 a10 a11 a12 a13 cI z)) args s 0 0 A) (F0 m 255 ls []) := by
  have C0 := C
  obtain ⟨hx, hb, hr, hml, hown, hts, hlocks, hK, hA⟩ := C
  intro z u x2 x4 H locs ls hf hP hD hS hl
  unfold fX5_find_b255 at hf
  refine lv_aload_n hx hb dX5_find_255 rfl (lv_at hl 0 rfl) ?_
  refine lv_dup hx hb dX5_find_256 rfl ?_
  refine va_get (D := D) (ci := 4) (v := .int (gM_foundMany u)) (C := RX5) (T := TX5) (N := 27) hx hb hts inX5_find_X5 hown hK hP 0 rfl rfl 20 (by decide) (hts (.fieldLink RX5 76 "BlockCacheModel" "foundMany" "I") (by decide +kernel)) (fun _ h9 => h9) rfl dX5_find_257 ?_
  refine lv_iconst (v := 1) hx hb dX5_find_260 (by decide) ?_
  refine lv_iadd hx hb dX5_find_261 ?_
  refine va_put (D := D) (ci := 4) (v := .int ((gM_foundMany u) + 1)) (ty := .int) (C := RX5) (T := TX5) (N := 27) hx hb hts inX5_find_X5 tyX5 tyX5_ok nmX5 hown hK hP hD hS 0 rfl rfl 20 (by decide) (hts (.fieldLink RX5 76 "BlockCacheModel" "foundMany" "I") (by decide +kernel)) (fun _ h9 => h9) rfl (by decide +kernel) rfl rfl (Nat.le_of_ble_eq_true rfl) dX5_find_262 (fun H locs hP hD hS => ?_)
  obtain ⟨u_1, eu_1, hf⟩ := pLet_out hf
  replace hP : va_P D vwCl (wM a0 a1 a2 a3 a4 a5 a6 a7 a8 a9 a10 a11 a12 a13 cI u_1) H := by rw [eu_1]; exact hP
  replace hD : va_D A (wM a0 a1 a2 a3 a4 a5 a6 a7 a8 a9 a10 a11 a12 a13 cI u_1) := by rw [eu_1]; exact hD
  refine lv_iconst (v := 0) hx hb dX5_find_265 (by decide) ?_
  refine lv_istore (lv' := [(6, .int 0), (0, .ref a0), (2, .int x2), (4, .int x4)]) hx hb dX5_find_266 hl (by decide) rfl (fun ls hl => ?_)
  exact wkX5_find_b268 C0 hK27 fuelX5_find_268 _ _ _ _ _ H locs ls hf hP hD hS (lv_sub hl [1, 2, 3, 0] rfl)
set_option maxRecDepth 100000 in
set_option maxHeartbeats 4000000 in
theorem wkX5_find_b251 {p : Program} {l : Launch} {e : Env} {s : State} {m : MethodId} {args : Array Value} {below : List Frame} {meth : Method} {c : Code} {D : va_G} {cI : ClassId} {A : Nat → Prop} {a0 a1 a2 a3 a4 a5 a6 a7 a8 a9 a10 a11 a12 a13 : Nat} (C : cxt p s m args meth c cX5_find none 7 RX5 wsX5_find D vwCl [(cI, .int)] A) {K27 : TM → Int32 → Int32 → Int32 → Option (TM)} (hK27 : ∀ (z : TM) (u : TM) (x2 : Int32) (x3 : Int32) (x4 : Int32) (H : Heap) (locs : List Loc) (ls : Array Slot), K27 u x2 x3 x4 = some z → va_P D vwCl (wM a0 a1 a2 a3 a4 a5 a6 a7 a8 a9 a10 a11 a12 a13 cI u) H → va_D A (wM a0 a1 a2 a3 a4 a5 a6 a7 a8 a9 a10 a11 a12 a13 cI u) → va_S A s.heap H locs → lv_has ls 7 [(0, .ref a0), (2, .int x2), (3, .int x3), (4, .int x4)] → W p l e rmX5_find s m args below meth c H locs 0 0 (MQ below (oV D vwCl [(cI, .int)] A (wM a0 a1 a2 a3 a4 a5 a6 a7 a8 a9 a10 a11 a12 a13 cI z)) args s 0 0 A) (F0 m 27 ls [])) : ∀ (z : TM) (u : TM) (x2 : Int32) (x4 : Int32) (y0 : Int32) (y1 : Int32) (H : Heap) (locs : List Loc) (ls : Array Slot), fX5_find_b251 K27 u x2 x4 y0 y1 = some z → va_P D vwCl (wM a0 a1 a2 a3 a4 a5 a6 a7 a8 a9 a10 a11 a12 a13 cI u) H → va_D A (wM a0 a1 a2 a3 a4 a5 a6 a7 a8 a9 a10 a11 a12 a13 cI u) → va_S A s.heap H locs → lv_has ls 7 [(0, .ref a0), (2, .int x2), (4, .int x4)] → W p l e rmX5_find s m args below meth c H locs 0 0 (MQ below (oV D vwCl [(cI, .int)] A (wM a0 a1 a2 a3 a4 a5 a6 a7 a8 a9 a10 a11 a12 a13 cI z)) args s 0 0 A) (F0 m 251 ls [.int y0, .int y1, .ref a0]) := by
  have C0 := C
  obtain ⟨hx, hb, hr, hml, hown, hts, hlocks, hK, hA⟩ := C
  intro z u x2 x4 y0 y1 H locs ls hf hP hD hS hl
  unfold fX5_find_b251 at hf
  refine lv_iadd hx hb dX5_find_251 ?_
  refine va_put (D := D) (ci := 4) (v := .int (y1 + y0)) (ty := .int) (C := RX5) (T := TX5) (N := 27) hx hb hts inX5_find_X5 tyX5 tyX5_ok nmX5 hown hK hP hD hS 0 rfl rfl 21 (by decide) (hts (.fieldLink RX5 79 "BlockCacheModel" "foundSize" "I") (by decide +kernel)) (fun _ h9 => h9) rfl (by decide +kernel) rfl rfl (Nat.le_of_ble_eq_true rfl) dX5_find_252 (fun H locs hP hD hS => ?_)
  obtain ⟨u_1, eu_1, hf⟩ := pLet_out hf
  replace hP : va_P D vwCl (wM a0 a1 a2 a3 a4 a5 a6 a7 a8 a9 a10 a11 a12 a13 cI u_1) H := by rw [eu_1]; exact hP
  replace hD : va_D A (wM a0 a1 a2 a3 a4 a5 a6 a7 a8 a9 a10 a11 a12 a13 cI u_1) := by rw [eu_1]; exact hD
  exact wkX5_find_b255 C0 hK27 _ _ _ _ H locs ls hf hP hD hS (lv_sub hl [0, 1, 2] rfl)
set_option maxRecDepth 100000 in
set_option maxHeartbeats 4000000 in
theorem wkX5_find_b226 {p : Program} {l : Launch} {e : Env} {s : State} {m : MethodId} {args : Array Value} {below : List Frame} {meth : Method} {c : Code} {D : va_G} {cI : ClassId} {A : Nat → Prop} {a0 a1 a2 a3 a4 a5 a6 a7 a8 a9 a10 a11 a12 a13 : Nat} (C : cxt p s m args meth c cX5_find none 7 RX5 wsX5_find D vwCl [(cI, .int)] A) {K27 : TM → Int32 → Int32 → Int32 → Option (TM)} (hK27 : ∀ (z : TM) (u : TM) (x2 : Int32) (x3 : Int32) (x4 : Int32) (H : Heap) (locs : List Loc) (ls : Array Slot), K27 u x2 x3 x4 = some z → va_P D vwCl (wM a0 a1 a2 a3 a4 a5 a6 a7 a8 a9 a10 a11 a12 a13 cI u) H → va_D A (wM a0 a1 a2 a3 a4 a5 a6 a7 a8 a9 a10 a11 a12 a13 cI u) → va_S A s.heap H locs → lv_has ls 7 [(0, .ref a0), (2, .int x2), (3, .int x3), (4, .int x4)] → W p l e rmX5_find s m args below meth c H locs 0 0 (MQ below (oV D vwCl [(cI, .int)] A (wM a0 a1 a2 a3 a4 a5 a6 a7 a8 a9 a10 a11 a12 a13 cI z)) args s 0 0 A) (F0 m 27 ls [])) : ∀ (z : TM) (u : TM) (x2 : Int32) (H : Heap) (locs : List Loc) (ls : Array Slot), fX5_find_b226 K27 u x2 = some z → va_P D vwCl (wM a0 a1 a2 a3 a4 a5 a6 a7 a8 a9 a10 a11 a12 a13 cI u) H → va_D A (wM a0 a1 a2 a3 a4 a5 a6 a7 a8 a9 a10 a11 a12 a13 cI u) → va_S A s.heap H locs → lv_has ls 7 [(0, .ref a0), (2, .int x2)] → W p l e rmX5_find s m args below meth c H locs 0 0 (MQ below (oV D vwCl [(cI, .int)] A (wM a0 a1 a2 a3 a4 a5 a6 a7 a8 a9 a10 a11 a12 a13 cI z)) args s 0 0 A) (F0 m 226 ls []) := by
  have C0 := C
  obtain ⟨hx, hb, hr, hml, hown, hts, hlocks, hK, hA⟩ := C
  intro z u x2 H locs ls hf hP hD hS hl
  unfold fX5_find_b226 at hf
  refine lv_aload_n hx hb dX5_find_226 rfl (lv_at hl 0 rfl) ?_
  refine va_get (D := D) (ci := 4) (v := .int (gM_foundMany u)) (C := RX5) (T := TX5) (N := 27) hx hb hts inX5_find_X5 hown hK hP 0 rfl rfl 20 (by decide) (hts (.fieldLink RX5 76 "BlockCacheModel" "foundMany" "I") (by decide +kernel)) (fun _ h9 => h9) rfl dX5_find_227 ?_
  obtain ⟨x_1, ex_1, hf⟩ := pLet_out hf
  refine gTop ex_1 ?_
  refine lv_istore (lv' := [(4, .int x_1), (0, .ref a0), (2, .int x2)]) hx hb dX5_find_230 hl (by decide) rfl (fun ls hl => ?_)
  refine lv_aload_n hx hb dX5_find_232 rfl (lv_at hl 1 rfl) ?_
  refine lv_aload_n hx hb dX5_find_233 rfl (lv_at hl 1 rfl) ?_
  refine va_get (D := D) (ci := 4) (v := .int (gM_foundSize u)) (C := RX5) (T := TX5) (N := 27) hx hb hts inX5_find_X5 hown hK hP 0 rfl rfl 21 (by decide) (hts (.fieldLink RX5 79 "BlockCacheModel" "foundSize" "I") (by decide +kernel)) (fun _ h9 => h9) rfl dX5_find_234 ?_
  refine lv_aload_n hx hb dX5_find_237 rfl (lv_at hl 1 rfl) ?_
  refine va_get (D := D) (ci := 4) (v := .int (gM_kind u)) (C := RX5) (T := TX5) (N := 27) hx hb hts inX5_find_X5 hown hK hP 0 rfl rfl 18 (by decide) (hts (.fieldLink RX5 66 "BlockCacheModel" "kind" "I") (by decide +kernel)) (fun _ h9 => h9) rfl dX5_find_238 ?_
  refine lv_bipush (v := 16) hx hb dX5_find_241 (by decide) ?_
  refine lv_icmp_ne (tgt := 250) hx hb dX5_find_243 (by decide) (fun c_2 => ?_) (fun c_2 => ?_)
  · replace hf := pI_f c_2 hf
    refine lv_iconst (v := 3) hx hb dX5_find_250 (by decide) ?_
    exact wkX5_find_b251 C0 hK27 _ _ _ _ _ _ H locs ls hf hP hD hS (lv_sub hl [1, 2, 0] rfl)
  · replace hf := pI_t c_2 hf
    refine lv_iconst (v := 4) hx hb dX5_find_246 (by decide) ?_
    refine lv_goto (tgt := 251) hx hb dX5_find_247 (by decide) ?_
    exact wkX5_find_b251 C0 hK27 _ _ _ _ _ _ H locs ls hf hP hD hS (lv_sub hl [1, 2, 0] rfl)
set_option maxRecDepth 100000 in
set_option maxHeartbeats 4000000 in
theorem wkX5_find_b222 {p : Program} {l : Launch} {e : Env} {s : State} {m : MethodId} {args : Array Value} {below : List Frame} {meth : Method} {c : Code} {D : va_G} {cI : ClassId} {A : Nat → Prop} {a0 a1 a2 a3 a4 a5 a6 a7 a8 a9 a10 a11 a12 a13 : Nat} (C : cxt p s m args meth c cX5_find none 7 RX5 wsX5_find D vwCl [(cI, .int)] A) {K27 : TM → Int32 → Int32 → Int32 → Option (TM)} (hK27 : ∀ (z : TM) (u : TM) (x2 : Int32) (x3 : Int32) (x4 : Int32) (H : Heap) (locs : List Loc) (ls : Array Slot), K27 u x2 x3 x4 = some z → va_P D vwCl (wM a0 a1 a2 a3 a4 a5 a6 a7 a8 a9 a10 a11 a12 a13 cI u) H → va_D A (wM a0 a1 a2 a3 a4 a5 a6 a7 a8 a9 a10 a11 a12 a13 cI u) → va_S A s.heap H locs → lv_has ls 7 [(0, .ref a0), (2, .int x2), (3, .int x3), (4, .int x4)] → W p l e rmX5_find s m args below meth c H locs 0 0 (MQ below (oV D vwCl [(cI, .int)] A (wM a0 a1 a2 a3 a4 a5 a6 a7 a8 a9 a10 a11 a12 a13 cI z)) args s 0 0 A) (F0 m 27 ls [])) : ∀ (z : TM) (u : TM) (x2 : Int32) (y0 : Int32) (y1 : Int32) (H : Heap) (locs : List Loc) (ls : Array Slot), fX5_find_b222 K27 u x2 y0 y1 = some z → va_P D vwCl (wM a0 a1 a2 a3 a4 a5 a6 a7 a8 a9 a10 a11 a12 a13 cI u) H → va_D A (wM a0 a1 a2 a3 a4 a5 a6 a7 a8 a9 a10 a11 a12 a13 cI u) → va_S A s.heap H locs → lv_has ls 7 [(0, .ref a0), (2, .int x2)] → W p l e rmX5_find s m args below meth c H locs 0 0 (MQ below (oV D vwCl [(cI, .int)] A (wM a0 a1 a2 a3 a4 a5 a6 a7 a8 a9 a10 a11 a12 a13 cI z)) args s 0 0 A) (F0 m 222 ls [.int y0, .int y1, .ref a0]) := by
  have C0 := C
  obtain ⟨hx, hb, hr, hml, hown, hts, hlocks, hK, hA⟩ := C
  intro z u x2 y0 y1 H locs ls hf hP hD hS hl
  unfold fX5_find_b222 at hf
  refine lv_isub hx hb dX5_find_222 ?_
  refine va_put (D := D) (ci := 4) (v := .int (y1 - y0)) (ty := .int) (C := RX5) (T := TX5) (N := 27) hx hb hts inX5_find_X5 tyX5 tyX5_ok nmX5 hown hK hP hD hS 0 rfl rfl 21 (by decide) (hts (.fieldLink RX5 79 "BlockCacheModel" "foundSize" "I") (by decide +kernel)) (fun _ h9 => h9) rfl (by decide +kernel) rfl rfl (Nat.le_of_ble_eq_true rfl) dX5_find_223 (fun H locs hP hD hS => ?_)
  obtain ⟨u_1, eu_1, hf⟩ := pLet_out hf
  replace hP : va_P D vwCl (wM a0 a1 a2 a3 a4 a5 a6 a7 a8 a9 a10 a11 a12 a13 cI u_1) H := by rw [eu_1]; exact hP
  replace hD : va_D A (wM a0 a1 a2 a3 a4 a5 a6 a7 a8 a9 a10 a11 a12 a13 cI u_1) := by rw [eu_1]; exact hD
  exact wkX5_find_b226 C0 hK27 _ _ _ H locs ls hf hP hD hS (lv_sub hl [0, 1] rfl)
set_option maxRecDepth 100000 in
set_option maxHeartbeats 4000000 in
theorem wkX5_find_b213 {p : Program} {l : Launch} {e : Env} {s : State} {m : MethodId} {args : Array Value} {below : List Frame} {meth : Method} {c : Code} {D : va_G} {cI : ClassId} {A : Nat → Prop} {a0 a1 a2 a3 a4 a5 a6 a7 a8 a9 a10 a11 a12 a13 : Nat} (C : cxt p s m args meth c cX5_find none 7 RX5 wsX5_find D vwCl [(cI, .int)] A) {K27 : TM → Int32 → Int32 → Int32 → Option (TM)} (hK27 : ∀ (z : TM) (u : TM) (x2 : Int32) (x3 : Int32) (x4 : Int32) (H : Heap) (locs : List Loc) (ls : Array Slot), K27 u x2 x3 x4 = some z → va_P D vwCl (wM a0 a1 a2 a3 a4 a5 a6 a7 a8 a9 a10 a11 a12 a13 cI u) H → va_D A (wM a0 a1 a2 a3 a4 a5 a6 a7 a8 a9 a10 a11 a12 a13 cI u) → va_S A s.heap H locs → lv_has ls 7 [(0, .ref a0), (2, .int x2), (3, .int x3), (4, .int x4)] → W p l e rmX5_find s m args below meth c H locs 0 0 (MQ below (oV D vwCl [(cI, .int)] A (wM a0 a1 a2 a3 a4 a5 a6 a7 a8 a9 a10 a11 a12 a13 cI z)) args s 0 0 A) (F0 m 27 ls [])) : ∀ (z : TM) (u : TM) (x2 : Int32) (x6 : Int32) (y0 : Int32) (H : Heap) (locs : List Loc) (ls : Array Slot), fX5_find_b213 K27 u x2 x6 y0 = some z → va_P D vwCl (wM a0 a1 a2 a3 a4 a5 a6 a7 a8 a9 a10 a11 a12 a13 cI u) H → va_D A (wM a0 a1 a2 a3 a4 a5 a6 a7 a8 a9 a10 a11 a12 a13 cI u) → va_S A s.heap H locs → lv_has ls 7 [(0, .ref a0), (2, .int x2), (6, .int x6)] → W p l e rmX5_find s m args below meth c H locs 0 0 (MQ below (oV D vwCl [(cI, .int)] A (wM a0 a1 a2 a3 a4 a5 a6 a7 a8 a9 a10 a11 a12 a13 cI z)) args s 0 0 A) (F0 m 213 ls [.int y0, .ref a0]) := by
  have C0 := C
  obtain ⟨hx, hb, hr, hml, hown, hts, hlocks, hK, hA⟩ := C
  intro z u x2 x6 y0 H locs ls hf hP hD hS hl
  unfold fX5_find_b213 at hf
  refine lv_iload hx hb dX5_find_213 (lv_at hl 2 rfl) ?_
  obtain ⟨z_1, hz_1, hf⟩ := pLet_out hf
  refine gI0 (va_runS (As := [.int x6]) (rest := [.int y0, .ref a0]) ⟨hx, hb, hml, hown, hts⟩ (ctX5_sizeOf l D cI x6 z_1 hz_1.symm H.size) (va_cwS 1 hts gX5_find_X5_sizeOf rfl rfl rfl (by decide +kernel) ⟨Nat.le_of_ble_eq_true rfl, Nat.le_of_ble_eq_true rfl⟩) (gPreS hP hK hD [] (by decide) rfl) rfl rfl hl.1 rfl (lv_room (Nat.le_of_ble_eq_true rfl)) dX5_find_215 ⟨Nat.le_of_ble_eq_true rfl, Nat.le_of_ble_eq_true rfl⟩) hP hD hS hA (fun H locs hP hS => ?_)
  refine lv_goto (tgt := 222) hx hb dX5_find_218 (by decide) ?_
  exact wkX5_find_b222 C0 hK27 _ _ _ _ _ H locs ls hf hP hD hS (lv_sub hl [0, 1] rfl)
set_option maxRecDepth 100000 in
set_option maxHeartbeats 4000000 in
theorem wkX5_find_b198 {p : Program} {l : Launch} {e : Env} {s : State} {m : MethodId} {args : Array Value} {below : List Frame} {meth : Method} {c : Code} {D : va_G} {cI : ClassId} {A : Nat → Prop} {a0 a1 a2 a3 a4 a5 a6 a7 a8 a9 a10 a11 a12 a13 : Nat} (C : cxt p s m args meth c cX5_find none 7 RX5 wsX5_find D vwCl [(cI, .int)] A) {K27 : TM → Int32 → Int32 → Int32 → Option (TM)} (hK27 : ∀ (z : TM) (u : TM) (x2 : Int32) (x3 : Int32) (x4 : Int32) (H : Heap) (locs : List Loc) (ls : Array Slot), K27 u x2 x3 x4 = some z → va_P D vwCl (wM a0 a1 a2 a3 a4 a5 a6 a7 a8 a9 a10 a11 a12 a13 cI u) H → va_D A (wM a0 a1 a2 a3 a4 a5 a6 a7 a8 a9 a10 a11 a12 a13 cI u) → va_S A s.heap H locs → lv_has ls 7 [(0, .ref a0), (2, .int x2), (3, .int x3), (4, .int x4)] → W p l e rmX5_find s m args below meth c H locs 0 0 (MQ below (oV D vwCl [(cI, .int)] A (wM a0 a1 a2 a3 a4 a5 a6 a7 a8 a9 a10 a11 a12 a13 cI z)) args s 0 0 A) (F0 m 27 ls [])) : ∀ (z : TM) (u : TM) (x2 : Int32) (x6 : Int32) (y0 : Int32) (y1 : Int32) (H : Heap) (locs : List Loc) (ls : Array Slot), fX5_find_b198 K27 u x2 x6 y0 y1 = some z → va_P D vwCl (wM a0 a1 a2 a3 a4 a5 a6 a7 a8 a9 a10 a11 a12 a13 cI u) H → va_D A (wM a0 a1 a2 a3 a4 a5 a6 a7 a8 a9 a10 a11 a12 a13 cI u) → va_S A s.heap H locs → lv_has ls 7 [(0, .ref a0), (2, .int x2), (6, .int x6)] → W p l e rmX5_find s m args below meth c H locs 0 0 (MQ below (oV D vwCl [(cI, .int)] A (wM a0 a1 a2 a3 a4 a5 a6 a7 a8 a9 a10 a11 a12 a13 cI z)) args s 0 0 A) (F0 m 198 ls [.int y0, .int y1, .ref a0]) := by
  have C0 := C
  obtain ⟨hx, hb, hr, hml, hown, hts, hlocks, hK, hA⟩ := C
  intro z u x2 x6 y0 y1 H locs ls hf hP hD hS hl
  unfold fX5_find_b198 at hf
  refine lv_isub hx hb dX5_find_198 ?_
  refine lv_iload hx hb dX5_find_199 (lv_at hl 2 rfl) ?_
  refine lv_bipush (v := 10) hx hb dX5_find_201 (by decide) ?_
  refine lv_icmp_eq (tgt := 213) hx hb dX5_find_203 (by decide) (fun c_1 => ?_) (fun c_1 => ?_)
  · replace hf := pI_t c_1 hf
    exact wkX5_find_b213 C0 hK27 _ _ _ _ _ H locs ls hf hP hD hS (lv_sub hl [0, 1, 2] rfl)
  · replace hf := pI_f c_1 hf
    refine lv_iload hx hb dX5_find_206 (lv_at hl 2 rfl) ?_
    refine lv_bipush (v := 19) hx hb dX5_find_208 (by decide) ?_
    refine lv_icmp_ne (tgt := 221) hx hb dX5_find_210 (by decide) (fun c_2 => ?_) (fun c_2 => ?_)
    · replace hf := pI_f c_2 hf
      refine lv_iconst (v := 0) hx hb dX5_find_221 (by decide) ?_
      exact wkX5_find_b222 C0 hK27 _ _ _ _ _ H locs ls hf hP hD hS (lv_sub hl [0, 1] rfl)
    · replace hf := pI_t c_2 hf
      exact wkX5_find_b213 C0 hK27 _ _ _ _ _ H locs ls hf hP hD hS (lv_sub hl [0, 1, 2] rfl)
set_option maxRecDepth 100000 in
set_option maxHeartbeats 4000000 in
theorem wkX5_find_b143 {p : Program} {l : Launch} {e : Env} {s : State} {m : MethodId} {args : Array Value} {below : List Frame} {meth : Method} {c : Code} {D : va_G} {cI : ClassId} {A : Nat → Prop} {a0 a1 a2 a3 a4 a5 a6 a7 a8 a9 a10 a11 a12 a13 : Nat} (C : cxt p s m args meth c cX5_find none 7 RX5 wsX5_find D vwCl [(cI, .int)] A) {K27 : TM → Int32 → Int32 → Int32 → Option (TM)} (hK27 : ∀ (z : TM) (u : TM) (x2 : Int32) (x3 : Int32) (x4 : Int32) (H : Heap) (locs : List Loc) (ls : Array Slot), K27 u x2 x3 x4 = some z → va_P D vwCl (wM a0 a1 a2 a3 a4 a5 a6 a7 a8 a9 a10 a11 a12 a13 cI u) H → va_D A (wM a0 a1 a2 a3 a4 a5 a6 a7 a8 a9 a10 a11 a12 a13 cI u) → va_S A s.heap H locs → lv_has ls 7 [(0, .ref a0), (2, .int x2), (3, .int x3), (4, .int x4)] → W p l e rmX5_find s m args below meth c H locs 0 0 (MQ below (oV D vwCl [(cI, .int)] A (wM a0 a1 a2 a3 a4 a5 a6 a7 a8 a9 a10 a11 a12 a13 cI z)) args s 0 0 A) (F0 m 27 ls [])) : ∀ (z : TM) (u : TM) (x2 : Int32) (x4 : Int32) (y0 : Int32) (y1 : Int32) (H : Heap) (locs : List Loc) (ls : Array Slot), fX5_find_b143 K27 u x2 x4 y0 y1 = some z → va_P D vwCl (wM a0 a1 a2 a3 a4 a5 a6 a7 a8 a9 a10 a11 a12 a13 cI u) H → va_D A (wM a0 a1 a2 a3 a4 a5 a6 a7 a8 a9 a10 a11 a12 a13 cI u) → va_S A s.heap H locs → lv_has ls 7 [(0, .ref a0), (2, .int x2), (4, .int x4)] → W p l e rmX5_find s m args below meth c H locs 0 0 (MQ below (oV D vwCl [(cI, .int)] A (wM a0 a1 a2 a3 a4 a5 a6 a7 a8 a9 a10 a11 a12 a13 cI z)) args s 0 0 A) (F0 m 143 ls [.int y0, .int y1, .ref a0]) := by
  have C0 := C
  obtain ⟨hx, hb, hr, hml, hown, hts, hlocks, hK, hA⟩ := C
  intro z u x2 x4 y0 y1 H locs ls hf hP hD hS hl
  unfold fX5_find_b143 at hf
  refine lv_iadd hx hb dX5_find_143 ?_
  refine va_put (D := D) (ci := 4) (v := .int (y1 + y0)) (ty := .int) (C := RX5) (T := TX5) (N := 27) hx hb hts inX5_find_X5 tyX5 tyX5_ok nmX5 hown hK hP hD hS 0 rfl rfl 21 (by decide) (hts (.fieldLink RX5 79 "BlockCacheModel" "foundSize" "I") (by decide +kernel)) (fun _ h9 => h9) rfl (by decide +kernel) rfl rfl (Nat.le_of_ble_eq_true rfl) dX5_find_144 (fun H locs hP hD hS => ?_)
  obtain ⟨u_1, eu_1, hf⟩ := pLet_out hf
  replace hP : va_P D vwCl (wM a0 a1 a2 a3 a4 a5 a6 a7 a8 a9 a10 a11 a12 a13 cI u_1) H := by rw [eu_1]; exact hP
  replace hD : va_D A (wM a0 a1 a2 a3 a4 a5 a6 a7 a8 a9 a10 a11 a12 a13 cI u_1) := by rw [eu_1]; exact hD
  refine lv_aload_n hx hb dX5_find_147 rfl (lv_at hl 0 rfl) ?_
  refine va_get (D := D) (ci := 4) (v := .int (gM_kind u_1)) (C := RX5) (T := TX5) (N := 27) hx hb hts inX5_find_X5 hown hK hP 0 rfl rfl 18 (by decide) (hts (.fieldLink RX5 66 "BlockCacheModel" "kind" "I") (by decide +kernel)) (fun _ h9 => h9) rfl dX5_find_148 ?_
  obtain ⟨z_2, hz_2, hf⟩ := pLet_out hf
  refine gI0 (va_runS (As := [.int (gM_kind u_1)]) (rest := []) ⟨hx, hb, hml, hown, hts⟩ (ctX5_makes l D cI (gM_kind u_1) z_2 hz_2.symm H.size) (va_cwS 1 hts gX5_find_X5_makes rfl rfl rfl (by decide +kernel) ⟨Nat.le_of_ble_eq_true rfl, Nat.le_of_ble_eq_true rfl⟩) (gPreS hP hK hD [] (by decide) rfl) rfl rfl hl.1 rfl (lv_room (Nat.le_of_ble_eq_true rfl)) dX5_find_151 ⟨Nat.le_of_ble_eq_true rfl, Nat.le_of_ble_eq_true rfl⟩) hP hD hS hA (fun H locs hP hS => ?_)
  refine lv_if_eq (tgt := 255) hx hb dX5_find_154 (by decide) (fun c_3 => ?_) (fun c_3 => ?_)
  · replace hf := pI_t c_3 hf
    exact wkX5_find_b255 C0 hK27 _ _ _ _ H locs ls hf hP hD hS (lv_sub hl [0, 1, 2] rfl)
  · replace hf := pI_f c_3 hf
    refine lv_iload hx hb dX5_find_157 (lv_at hl 2 rfl) ?_
    refine lv_if_lt (tgt := 226) hx hb dX5_find_159 (by decide) (fun c_4 => ?_) (fun c_4 => ?_)
    · replace hf := pI_t c_4 hf
      exact wkX5_find_b226 C0 hK27 _ _ _ H locs ls hf hP hD hS (lv_sub hl [0, 1] rfl)
    · replace hf := pI_f c_4 hf
      refine lv_aload_n hx hb dX5_find_162 rfl (lv_at hl 0 rfl) ?_
      refine va_get (D := D) (ci := 4) (v := .ref a13) (C := RX5) (T := TX5) (N := 27) hx hb hts inX5_find_X5 hown hK hP 0 rfl rfl 24 (by decide) (hts (.fieldLink RX5 53 "BlockCacheModel" "kinds" "[I") (by decide +kernel)) (fun _ h9 => h9) rfl dX5_find_163 ?_
      refine lv_iload hx hb dX5_find_166 (lv_at hl 2 rfl) ?_
      obtain ⟨h_5, hf⟩ := pIn_out hf
      refine va_iald hx hb hK hP 13 0 rfl rfl h_5 dX5_find_168 ?_
      obtain ⟨x_6, ex_6, hf⟩ := pLet_out hf
      refine gTop ex_6 ?_
      refine lv_istore (lv' := [(6, .int x_6), (0, .ref a0), (2, .int x2), (4, .int x4)]) hx hb dX5_find_169 hl (by decide) rfl (fun ls hl => ?_)
      refine lv_aload_n hx hb dX5_find_171 rfl (lv_at hl 1 rfl) ?_
      refine lv_dup hx hb dX5_find_172 rfl ?_
      refine va_get (D := D) (ci := 4) (v := .int (gM_foundDead u_1)) (C := RX5) (T := TX5) (N := 27) hx hb hts inX5_find_X5 hown hK hP 0 rfl rfl 23 (by decide) (hts (.fieldLink RX5 85 "BlockCacheModel" "foundDead" "I") (by decide +kernel)) (fun _ h9 => h9) rfl dX5_find_173 ?_
      refine lv_iconst (v := 1) hx hb dX5_find_176 (by decide) ?_
      refine lv_iadd hx hb dX5_find_177 ?_
      refine va_put (D := D) (ci := 4) (v := .int ((gM_foundDead u_1) + 1)) (ty := .int) (C := RX5) (T := TX5) (N := 27) hx hb hts inX5_find_X5 tyX5 tyX5_ok nmX5 hown hK hP hD hS 0 rfl rfl 23 (by decide) (hts (.fieldLink RX5 85 "BlockCacheModel" "foundDead" "I") (by decide +kernel)) (fun _ h9 => h9) rfl (by decide +kernel) rfl rfl (Nat.le_of_ble_eq_true rfl) dX5_find_178 (fun H locs hP hD hS => ?_)
      obtain ⟨u_7, eu_7, hf⟩ := pLet_out hf
      replace hP : va_P D vwCl (wM a0 a1 a2 a3 a4 a5 a6 a7 a8 a9 a10 a11 a12 a13 cI u_7) H := by rw [eu_7]; exact hP
      replace hD : va_D A (wM a0 a1 a2 a3 a4 a5 a6 a7 a8 a9 a10 a11 a12 a13 cI u_7) := by rw [eu_7]; exact hD
      refine lv_aload_n hx hb dX5_find_181 rfl (lv_at hl 1 rfl) ?_
      refine lv_aload_n hx hb dX5_find_182 rfl (lv_at hl 1 rfl) ?_
      refine va_get (D := D) (ci := 4) (v := .int (gM_foundSize u_7)) (C := RX5) (T := TX5) (N := 27) hx hb hts inX5_find_X5 hown hK hP 0 rfl rfl 21 (by decide) (hts (.fieldLink RX5 79 "BlockCacheModel" "foundSize" "I") (by decide +kernel)) (fun _ h9 => h9) rfl dX5_find_183 ?_
      refine lv_iload hx hb dX5_find_186 (lv_at hl 0 rfl) ?_
      refine lv_bipush (v := 16) hx hb dX5_find_188 (by decide) ?_
      refine lv_icmp_ne (tgt := 197) hx hb dX5_find_190 (by decide) (fun c_8 => ?_) (fun c_8 => ?_)
      · replace hf := pI_f c_8 hf
        refine lv_iconst (v := 3) hx hb dX5_find_197 (by decide) ?_
        exact wkX5_find_b198 C0 hK27 _ _ _ _ _ _ H locs ls hf hP hD hS (lv_sub hl [1, 2, 0] rfl)
      · replace hf := pI_t c_8 hf
        refine lv_iconst (v := 4) hx hb dX5_find_193 (by decide) ?_
        refine lv_goto (tgt := 198) hx hb dX5_find_194 (by decide) ?_
        exact wkX5_find_b198 C0 hK27 _ _ _ _ _ _ H locs ls hf hP hD hS (lv_sub hl [1, 2, 0] rfl)
set_option maxRecDepth 100000 in
set_option maxHeartbeats 4000000 in
theorem wkX5_find_b136 {p : Program} {l : Launch} {e : Env} {s : State} {m : MethodId} {args : Array Value} {below : List Frame} {meth : Method} {c : Code} {D : va_G} {cI : ClassId} {A : Nat → Prop} {a0 a1 a2 a3 a4 a5 a6 a7 a8 a9 a10 a11 a12 a13 : Nat} (C : cxt p s m args meth c cX5_find none 7 RX5 wsX5_find D vwCl [(cI, .int)] A) {K27 : TM → Int32 → Int32 → Int32 → Option (TM)} (hK27 : ∀ (z : TM) (u : TM) (x2 : Int32) (x3 : Int32) (x4 : Int32) (H : Heap) (locs : List Loc) (ls : Array Slot), K27 u x2 x3 x4 = some z → va_P D vwCl (wM a0 a1 a2 a3 a4 a5 a6 a7 a8 a9 a10 a11 a12 a13 cI u) H → va_D A (wM a0 a1 a2 a3 a4 a5 a6 a7 a8 a9 a10 a11 a12 a13 cI u) → va_S A s.heap H locs → lv_has ls 7 [(0, .ref a0), (2, .int x2), (3, .int x3), (4, .int x4)] → W p l e rmX5_find s m args below meth c H locs 0 0 (MQ below (oV D vwCl [(cI, .int)] A (wM a0 a1 a2 a3 a4 a5 a6 a7 a8 a9 a10 a11 a12 a13 cI z)) args s 0 0 A) (F0 m 27 ls [])) : ∀ (z : TM) (u : TM) (x2 : Int32) (x4 : Int32) (y0 : Int32) (H : Heap) (locs : List Loc) (ls : Array Slot), fX5_find_b136 K27 u x2 x4 y0 = some z → va_P D vwCl (wM a0 a1 a2 a3 a4 a5 a6 a7 a8 a9 a10 a11 a12 a13 cI u) H → va_D A (wM a0 a1 a2 a3 a4 a5 a6 a7 a8 a9 a10 a11 a12 a13 cI u) → va_S A s.heap H locs → lv_has ls 7 [(0, .ref a0), (2, .int x2), (4, .int x4)] → W p l e rmX5_find s m args below meth c H locs 0 0 (MQ below (oV D vwCl [(cI, .int)] A (wM a0 a1 a2 a3 a4 a5 a6 a7 a8 a9 a10 a11 a12 a13 cI z)) args s 0 0 A) (F0 m 136 ls [.int y0, .ref a0]) := by
  have C0 := C
  obtain ⟨hx, hb, hr, hml, hown, hts, hlocks, hK, hA⟩ := C
  intro z u x2 x4 y0 H locs ls hf hP hD hS hl
  unfold fX5_find_b136 at hf
  refine lv_aload_n hx hb dX5_find_136 rfl (lv_at hl 0 rfl) ?_
  refine va_get (D := D) (ci := 4) (v := .int (gM_kind u)) (C := RX5) (T := TX5) (N := 27) hx hb hts inX5_find_X5 hown hK hP 0 rfl rfl 18 (by decide) (hts (.fieldLink RX5 66 "BlockCacheModel" "kind" "I") (by decide +kernel)) (fun _ h9 => h9) rfl dX5_find_137 ?_
  obtain ⟨z_1, hz_1, hf⟩ := pLet_out hf
  refine gI0 (va_runS (As := [.int (gM_kind u)]) (rest := [.int y0, .ref a0]) ⟨hx, hb, hml, hown, hts⟩ (ctX5_sizeOf l D cI (gM_kind u) z_1 hz_1.symm H.size) (va_cwS 1 hts gX5_find_X5_sizeOf rfl rfl rfl (by decide +kernel) ⟨Nat.le_of_ble_eq_true rfl, Nat.le_of_ble_eq_true rfl⟩) (gPreS hP hK hD [] (by decide) rfl) rfl rfl hl.1 rfl (lv_room (Nat.le_of_ble_eq_true rfl)) dX5_find_140 ⟨Nat.le_of_ble_eq_true rfl, Nat.le_of_ble_eq_true rfl⟩) hP hD hS hA (fun H locs hP hS => ?_)
  exact wkX5_find_b143 C0 hK27 _ _ _ _ _ _ H locs ls hf hP hD hS (lv_sub hl [0, 1, 2] rfl)
set_option maxRecDepth 100000 in
set_option maxHeartbeats 4000000 in
theorem wkX5_find_b110 {p : Program} {l : Launch} {e : Env} {s : State} {m : MethodId} {args : Array Value} {below : List Frame} {meth : Method} {c : Code} {D : va_G} {cI : ClassId} {A : Nat → Prop} {a0 a1 a2 a3 a4 a5 a6 a7 a8 a9 a10 a11 a12 a13 : Nat} (C : cxt p s m args meth c cX5_find none 7 RX5 wsX5_find D vwCl [(cI, .int)] A) {K27 : TM → Int32 → Int32 → Int32 → Option (TM)} (hK27 : ∀ (z : TM) (u : TM) (x2 : Int32) (x3 : Int32) (x4 : Int32) (H : Heap) (locs : List Loc) (ls : Array Slot), K27 u x2 x3 x4 = some z → va_P D vwCl (wM a0 a1 a2 a3 a4 a5 a6 a7 a8 a9 a10 a11 a12 a13 cI u) H → va_D A (wM a0 a1 a2 a3 a4 a5 a6 a7 a8 a9 a10 a11 a12 a13 cI u) → va_S A s.heap H locs → lv_has ls 7 [(0, .ref a0), (2, .int x2), (3, .int x3), (4, .int x4)] → W p l e rmX5_find s m args below meth c H locs 0 0 (MQ below (oV D vwCl [(cI, .int)] A (wM a0 a1 a2 a3 a4 a5 a6 a7 a8 a9 a10 a11 a12 a13 cI z)) args s 0 0 A) (F0 m 27 ls [])) : ∀ (z : TM) (u : TM) (x2 : Int32) (x4 : Int32) (x5 : Int32) (H : Heap) (locs : List Loc) (ls : Array Slot), fX5_find_b110 K27 u x2 x4 x5 = some z → va_P D vwCl (wM a0 a1 a2 a3 a4 a5 a6 a7 a8 a9 a10 a11 a12 a13 cI u) H → va_D A (wM a0 a1 a2 a3 a4 a5 a6 a7 a8 a9 a10 a11 a12 a13 cI u) → va_S A s.heap H locs → lv_has ls 7 [(0, .ref a0), (2, .int x2), (4, .int x4), (5, .int x5)] → W p l e rmX5_find s m args below meth c H locs 0 0 (MQ below (oV D vwCl [(cI, .int)] A (wM a0 a1 a2 a3 a4 a5 a6 a7 a8 a9 a10 a11 a12 a13 cI z)) args s 0 0 A) (F0 m 110 ls []) := by
  have C0 := C
  obtain ⟨hx, hb, hr, hml, hown, hts, hlocks, hK, hA⟩ := C
  intro z u x2 x4 x5 H locs ls hf hP hD hS hl
  unfold fX5_find_b110 at hf
  refine lv_aload_n hx hb dX5_find_110 rfl (lv_at hl 0 rfl) ?_
  refine lv_aload_n hx hb dX5_find_111 rfl (lv_at hl 0 rfl) ?_
  refine va_get (D := D) (ci := 4) (v := .int (gM_foundSize u)) (C := RX5) (T := TX5) (N := 27) hx hb hts inX5_find_X5 hown hK hP 0 rfl rfl 21 (by decide) (hts (.fieldLink RX5 79 "BlockCacheModel" "foundSize" "I") (by decide +kernel)) (fun _ h9 => h9) rfl dX5_find_112 ?_
  refine lv_aload_n hx hb dX5_find_115 rfl (lv_at hl 0 rfl) ?_
  refine va_get (D := D) (ci := 4) (v := .int (gM_kind u)) (C := RX5) (T := TX5) (N := 27) hx hb hts inX5_find_X5 hown hK hP 0 rfl rfl 18 (by decide) (hts (.fieldLink RX5 66 "BlockCacheModel" "kind" "I") (by decide +kernel)) (fun _ h9 => h9) rfl dX5_find_116 ?_
  refine lv_bipush (v := 23) hx hb dX5_find_119 (by decide) ?_
  refine lv_icmp_ne (tgt := 136) hx hb dX5_find_121 (by decide) (fun c_1 => ?_) (fun c_1 => ?_)
  · replace hf := pI_f c_1 hf
    exact wkX5_find_b136 C0 hK27 _ _ _ _ _ H locs ls hf hP hD hS (lv_sub hl [0, 1, 2] rfl)
  · replace hf := pI_t c_1 hf
    refine lv_iload hx hb dX5_find_124 (lv_at hl 3 rfl) ?_
    obtain ⟨z_2, hz_2, hf⟩ := pLet_out hf
    refine gI0 (va_runS (As := [.int x5]) (rest := [.int (gM_foundSize u), .ref a0]) ⟨hx, hb, hml, hown, hts⟩ (ctX5_isAlways l D cI x5 z_2 hz_2.symm H.size) (va_cwS 1 hts gX5_find_X5_isAlways rfl rfl rfl (by decide +kernel) ⟨Nat.le_of_ble_eq_true rfl, Nat.le_of_ble_eq_true rfl⟩) (gPreS hP hK hD [] (by decide) rfl) rfl rfl hl.1 rfl (lv_room (Nat.le_of_ble_eq_true rfl)) dX5_find_126 ⟨Nat.le_of_ble_eq_true rfl, Nat.le_of_ble_eq_true rfl⟩) hP hD hS hA (fun H locs hP hS => ?_)
    refine lv_if_ne (tgt := 136) hx hb dX5_find_129 (by decide) (fun c_3 => ?_) (fun c_3 => ?_)
    · replace hf := pI_f c_3 hf
      exact wkX5_find_b136 C0 hK27 _ _ _ _ _ H locs ls hf hP hD hS (lv_sub hl [0, 1, 2] rfl)
    · replace hf := pI_t c_3 hf
      refine lv_iconst (v := 3) hx hb dX5_find_132 (by decide) ?_
      refine lv_goto (tgt := 143) hx hb dX5_find_133 (by decide) ?_
      exact wkX5_find_b143 C0 hK27 _ _ _ _ _ _ H locs ls hf hP hD hS (lv_sub hl [0, 1, 2] rfl)
set_option maxRecDepth 100000 in
set_option maxHeartbeats 4000000 in
theorem wkX5_find_b107 {p : Program} {l : Launch} {e : Env} {s : State} {m : MethodId} {args : Array Value} {below : List Frame} {meth : Method} {c : Code} {D : va_G} {cI : ClassId} {A : Nat → Prop} {a0 a1 a2 a3 a4 a5 a6 a7 a8 a9 a10 a11 a12 a13 : Nat} (C : cxt p s m args meth c cX5_find none 7 RX5 wsX5_find D vwCl [(cI, .int)] A) {K27 : TM → Int32 → Int32 → Int32 → Option (TM)} (hK27 : ∀ (z : TM) (u : TM) (x2 : Int32) (x3 : Int32) (x4 : Int32) (H : Heap) (locs : List Loc) (ls : Array Slot), K27 u x2 x3 x4 = some z → va_P D vwCl (wM a0 a1 a2 a3 a4 a5 a6 a7 a8 a9 a10 a11 a12 a13 cI u) H → va_D A (wM a0 a1 a2 a3 a4 a5 a6 a7 a8 a9 a10 a11 a12 a13 cI u) → va_S A s.heap H locs → lv_has ls 7 [(0, .ref a0), (2, .int x2), (3, .int x3), (4, .int x4)] → W p l e rmX5_find s m args below meth c H locs 0 0 (MQ below (oV D vwCl [(cI, .int)] A (wM a0 a1 a2 a3 a4 a5 a6 a7 a8 a9 a10 a11 a12 a13 cI z)) args s 0 0 A) (F0 m 27 ls [])) : ∀ (z : TM) (u : TM) (x2 : Int32) (x5 : Int32) (H : Heap) (locs : List Loc) (ls : Array Slot), fX5_find_b107 K27 u x2 x5 = some z → va_P D vwCl (wM a0 a1 a2 a3 a4 a5 a6 a7 a8 a9 a10 a11 a12 a13 cI u) H → va_D A (wM a0 a1 a2 a3 a4 a5 a6 a7 a8 a9 a10 a11 a12 a13 cI u) → va_S A s.heap H locs → lv_has ls 7 [(0, .ref a0), (2, .int x2), (5, .int x5)] → W p l e rmX5_find s m args below meth c H locs 0 0 (MQ below (oV D vwCl [(cI, .int)] A (wM a0 a1 a2 a3 a4 a5 a6 a7 a8 a9 a10 a11 a12 a13 cI z)) args s 0 0 A) (F0 m 107 ls []) := by
  have C0 := C
  obtain ⟨hx, hb, hr, hml, hown, hts, hlocks, hK, hA⟩ := C
  intro z u x2 x5 H locs ls hf hP hD hS hl
  unfold fX5_find_b107 at hf
  refine lv_iconst (v := (-1)) hx hb dX5_find_107 (by decide) ?_
  refine lv_istore (lv' := [(4, .int (-1)), (0, .ref a0), (2, .int x2), (5, .int x5)]) hx hb dX5_find_108 hl (by decide) rfl (fun ls hl => ?_)
  exact wkX5_find_b110 C0 hK27 _ _ _ _ _ H locs ls hf hP hD hS (lv_sub hl [1, 2, 0, 3] rfl)
set_option maxRecDepth 100000 in
set_option maxHeartbeats 4000000 in
theorem wkX5_find_b389 {p : Program} {l : Launch} {e : Env} {s : State} {m : MethodId} {args : Array Value} {below : List Frame} {meth : Method} {c : Code} {D : va_G} {cI : ClassId} {A : Nat → Prop} {a0 a1 a2 a3 a4 a5 a6 a7 a8 a9 a10 a11 a12 a13 : Nat} (C : cxt p s m args meth c cX5_find none 7 RX5 wsX5_find D vwCl [(cI, .int)] A) : ∀ (z : TM) (u : TM) (H : Heap) (locs : List Loc) (ls : Array Slot), fX5_find_b389 u = some z → va_P D vwCl (wM a0 a1 a2 a3 a4 a5 a6 a7 a8 a9 a10 a11 a12 a13 cI u) H → va_D A (wM a0 a1 a2 a3 a4 a5 a6 a7 a8 a9 a10 a11 a12 a13 cI u) → va_S A s.heap H locs → lv_has ls 7 [(0, .ref a0)] → W p l e rmX5_find s m args below meth c H locs 0 0 (MQ below (oV D vwCl [(cI, .int)] A (wM a0 a1 a2 a3 a4 a5 a6 a7 a8 a9 a10 a11 a12 a13 cI z)) args s 0 0 A) (F0 m 389 ls []) := by
  have C0 := C
  obtain ⟨hx, hb, hr, hml, hown, hts, hlocks, hK, hA⟩ := C
  intro z u H locs ls hf hP hD hS hl
  unfold fX5_find_b389 at hf
  refine lv_aload_n hx hb dX5_find_389 rfl (lv_at hl 0 rfl) ?_
  refine lv_dup hx hb dX5_find_390 rfl ?_
  refine va_get (D := D) (ci := 4) (v := .int (gM_foundSize u)) (C := RX5) (T := TX5) (N := 27) hx hb hts inX5_find_X5 hown hK hP 0 rfl rfl 21 (by decide) (hts (.fieldLink RX5 79 "BlockCacheModel" "foundSize" "I") (by decide +kernel)) (fun _ h9 => h9) rfl dX5_find_391 ?_
  refine lv_iconst (v := 1) hx hb dX5_find_394 (by decide) ?_
  refine lv_iadd hx hb dX5_find_395 ?_
  refine va_put (D := D) (ci := 4) (v := .int ((gM_foundSize u) + 1)) (ty := .int) (C := RX5) (T := TX5) (N := 27) hx hb hts inX5_find_X5 tyX5 tyX5_ok nmX5 hown hK hP hD hS 0 rfl rfl 21 (by decide) (hts (.fieldLink RX5 79 "BlockCacheModel" "foundSize" "I") (by decide +kernel)) (fun _ h9 => h9) rfl (by decide +kernel) rfl rfl (Nat.le_of_ble_eq_true rfl) dX5_find_396 (fun H locs hP hD hS => ?_)
  obtain ⟨u_1, eu_1, hf⟩ := pLet_out hf
  replace hP : va_P D vwCl (wM a0 a1 a2 a3 a4 a5 a6 a7 a8 a9 a10 a11 a12 a13 cI u_1) H := by rw [eu_1]; exact hP
  replace hD : va_D A (wM a0 a1 a2 a3 a4 a5 a6 a7 a8 a9 a10 a11 a12 a13 cI u_1) := by rw [eu_1]; exact hD
  have hz := Option.some.inj hf
  subst hz
  exact gRetV hx hb hr hlocks hK hP hD hS rfl dX5_find_399
set_option maxRecDepth 100000 in
set_option maxHeartbeats 4000000 in
theorem wkX5_find_b366 {p : Program} {l : Launch} {e : Env} {s : State} {m : MethodId} {args : Array Value} {below : List Frame} {meth : Method} {c : Code} {D : va_G} {cI : ClassId} {A : Nat → Prop} {a0 a1 a2 a3 a4 a5 a6 a7 a8 a9 a10 a11 a12 a13 : Nat} (C : cxt p s m args meth c cX5_find none 7 RX5 wsX5_find D vwCl [(cI, .int)] A) : ∀ (z : TM) (u : TM) (y0 : Int32) (H : Heap) (locs : List Loc) (ls : Array Slot), fX5_find_b366 u y0 = some z → va_P D vwCl (wM a0 a1 a2 a3 a4 a5 a6 a7 a8 a9 a10 a11 a12 a13 cI u) H → va_D A (wM a0 a1 a2 a3 a4 a5 a6 a7 a8 a9 a10 a11 a12 a13 cI u) → va_S A s.heap H locs → lv_has ls 7 [(0, .ref a0)] → W p l e rmX5_find s m args below meth c H locs 0 0 (MQ below (oV D vwCl [(cI, .int)] A (wM a0 a1 a2 a3 a4 a5 a6 a7 a8 a9 a10 a11 a12 a13 cI z)) args s 0 0 A) (F0 m 366 ls [.int y0]) := by
  have C0 := C
  obtain ⟨hx, hb, hr, hml, hown, hts, hlocks, hK, hA⟩ := C
  intro z u y0 H locs ls hf hP hD hS hl
  unfold fX5_find_b366 at hf
  refine lv_istore (lv' := [(5, .int y0), (0, .ref a0)]) hx hb dX5_find_366 hl (by decide) rfl (fun ls hl => ?_)
  refine lv_aload_n hx hb dX5_find_368 rfl (lv_at hl 1 rfl) ?_
  refine va_get (D := D) (ci := 4) (v := .int (gM_foundMany u)) (C := RX5) (T := TX5) (N := 27) hx hb hts inX5_find_X5 hown hK hP 0 rfl rfl 20 (by decide) (hts (.fieldLink RX5 76 "BlockCacheModel" "foundMany" "I") (by decide +kernel)) (fun _ h9 => h9) rfl dX5_find_369 ?_
  refine lv_if_le (tgt := 399) hx hb dX5_find_372 (by decide) (fun c_1 => ?_) (fun c_1 => ?_)
  · replace hf := pI_t c_1 hf
    have hz := Option.some.inj hf
    subst hz
    exact gRetV hx hb hr hlocks hK hP hD hS rfl dX5_find_399
  · replace hf := pI_f c_1 hf
    refine lv_iload hx hb dX5_find_375 (lv_at hl 0 rfl) ?_
    refine lv_iconst (v := 4) hx hb dX5_find_377 (by decide) ?_
    refine lv_icmp_eq (tgt := 389) hx hb dX5_find_378 (by decide) (fun c_2 => ?_) (fun c_2 => ?_)
    · replace hf := pI_t c_2 hf
      exact wkX5_find_b389 C0 _ _ H locs ls hf hP hD hS (lv_sub hl [1] rfl)
    · replace hf := pI_f c_2 hf
      refine lv_iload hx hb dX5_find_381 (lv_at hl 0 rfl) ?_
      obtain ⟨z_3, hz_3, hf⟩ := pLet_out hf
      refine gI0 (va_runS (As := [.int y0]) (rest := []) ⟨hx, hb, hml, hown, hts⟩ (ctX5_ends l D cI y0 z_3 hz_3.symm H.size) (va_cwS 1 hts gX5_find_X5_ends rfl rfl rfl (by decide +kernel) ⟨Nat.le_of_ble_eq_true rfl, Nat.le_of_ble_eq_true rfl⟩) (gPreS hP hK hD [] (by decide) rfl) rfl rfl hl.1 rfl (lv_room (Nat.le_of_ble_eq_true rfl)) dX5_find_383 ⟨Nat.le_of_ble_eq_true rfl, Nat.le_of_ble_eq_true rfl⟩) hP hD hS hA (fun H locs hP hS => ?_)
      refine lv_if_ne (tgt := 399) hx hb dX5_find_386 (by decide) (fun c_4 => ?_) (fun c_4 => ?_)
      · replace hf := pI_f c_4 hf
        have hz := Option.some.inj hf
        subst hz
        exact gRetV hx hb hr hlocks hK hP hD hS rfl dX5_find_399
      · replace hf := pI_t c_4 hf
        exact wkX5_find_b389 C0 _ _ H locs ls hf hP hD hS (lv_sub hl [1] rfl)
set_option maxRecDepth 100000 in
set_option maxHeartbeats 4000000 in
theorem wkX5_find_b344 {p : Program} {l : Launch} {e : Env} {s : State} {m : MethodId} {args : Array Value} {below : List Frame} {meth : Method} {c : Code} {D : va_G} {cI : ClassId} {A : Nat → Prop} {a0 a1 a2 a3 a4 a5 a6 a7 a8 a9 a10 a11 a12 a13 : Nat} (C : cxt p s m args meth c cX5_find none 7 RX5 wsX5_find D vwCl [(cI, .int)] A) : ∀ (z : TM) (u : TM) (H : Heap) (locs : List Loc) (ls : Array Slot), fX5_find_b344 u = some z → va_P D vwCl (wM a0 a1 a2 a3 a4 a5 a6 a7 a8 a9 a10 a11 a12 a13 cI u) H → va_D A (wM a0 a1 a2 a3 a4 a5 a6 a7 a8 a9 a10 a11 a12 a13 cI u) → va_S A s.heap H locs → lv_has ls 7 [(0, .ref a0)] → W p l e rmX5_find s m args below meth c H locs 0 0 (MQ below (oV D vwCl [(cI, .int)] A (wM a0 a1 a2 a3 a4 a5 a6 a7 a8 a9 a10 a11 a12 a13 cI z)) args s 0 0 A) (F0 m 344 ls []) := by
  have C0 := C
  obtain ⟨hx, hb, hr, hml, hown, hts, hlocks, hK, hA⟩ := C
  intro z u H locs ls hf hP hD hS hl
  unfold fX5_find_b344 at hf
  refine lv_aload_n hx hb dX5_find_344 rfl (lv_at hl 0 rfl) ?_
  refine va_get (D := D) (ci := 4) (v := .int (gM_foundMany u)) (C := RX5) (T := TX5) (N := 27) hx hb hts inX5_find_X5 hown hK hP 0 rfl rfl 20 (by decide) (hts (.fieldLink RX5 76 "BlockCacheModel" "foundMany" "I") (by decide +kernel)) (fun _ h9 => h9) rfl dX5_find_345 ?_
  refine lv_if_le (tgt := 365) hx hb dX5_find_348 (by decide) (fun c_1 => ?_) (fun c_1 => ?_)
  · replace hf := pI_t c_1 hf
    refine lv_iconst (v := 0) hx hb dX5_find_365 (by decide) ?_
    exact wkX5_find_b366 C0 _ _ _ H locs ls hf hP hD hS (lv_sub hl [0] rfl)
  · replace hf := pI_f c_1 hf
    refine lv_aload_n hx hb dX5_find_351 rfl (lv_at hl 0 rfl) ?_
    refine va_get (D := D) (ci := 4) (v := .ref a13) (C := RX5) (T := TX5) (N := 27) hx hb hts inX5_find_X5 hown hK hP 0 rfl rfl 24 (by decide) (hts (.fieldLink RX5 53 "BlockCacheModel" "kinds" "[I") (by decide +kernel)) (fun _ h9 => h9) rfl dX5_find_352 ?_
    refine lv_aload_n hx hb dX5_find_355 rfl (lv_at hl 0 rfl) ?_
    refine va_get (D := D) (ci := 4) (v := .int (gM_foundMany u)) (C := RX5) (T := TX5) (N := 27) hx hb hts inX5_find_X5 hown hK hP 0 rfl rfl 20 (by decide) (hts (.fieldLink RX5 76 "BlockCacheModel" "foundMany" "I") (by decide +kernel)) (fun _ h9 => h9) rfl dX5_find_356 ?_
    refine lv_iconst (v := 1) hx hb dX5_find_359 (by decide) ?_
    refine lv_isub hx hb dX5_find_360 ?_
    obtain ⟨h_2, hf⟩ := pIn_out hf
    refine va_iald hx hb hK hP 13 0 rfl rfl h_2 dX5_find_361 ?_
    refine lv_goto (tgt := 366) hx hb dX5_find_362 (by decide) ?_
    exact wkX5_find_b366 C0 _ _ _ H locs ls hf hP hD hS (lv_sub hl [0] rfl)
set_option maxRecDepth 100000 in
set_option maxHeartbeats 4000000 in
theorem wkX5_find_b27 {p : Program} {l : Launch} {e : Env} {s : State} {m : MethodId} {args : Array Value} {below : List Frame} {meth : Method} {c : Code} {D : va_G} {cI : ClassId} {A : Nat → Prop} {a0 a1 a2 a3 a4 a5 a6 a7 a8 a9 a10 a11 a12 a13 : Nat} (C : cxt p s m args meth c cX5_find none 7 RX5 wsX5_find D vwCl [(cI, .int)] A) : ∀ (fu : Nat) (z : TM) (u : TM) (x2 : Int32) (x3 : Int32) (x4 : Int32) (H : Heap) (locs : List Loc) (ls : Array Slot), fX5_find_b27 fu u x2 x3 x4 = some z → va_P D vwCl (wM a0 a1 a2 a3 a4 a5 a6 a7 a8 a9 a10 a11 a12 a13 cI u) H → va_D A (wM a0 a1 a2 a3 a4 a5 a6 a7 a8 a9 a10 a11 a12 a13 cI u) → va_S A s.heap H locs → lv_has ls 7 [(0, .ref a0), (2, .int x2), (3, .int x3), (4, .int x4)] → W p l e rmX5_find s m args below meth c H locs 0 0 (MQ below (oV D vwCl [(cI, .int)] A (wM a0 a1 a2 a3 a4 a5 a6 a7 a8 a9 a10 a11 a12 a13 cI z)) args s 0 0 A) (F0 m 27 ls []) := by
  have C0 := C
  obtain ⟨hx, hb, hr, hml, hown, hts, hlocks, hK, hA⟩ := C
  intro fu
  induction fu with
  | zero =>
    intro z u x2 x3 x4 H locs ls hf hP hD hS hl
    cases hf
  | succ nn ih =>
    intro z u x2 x3 x4 H locs ls hf hP hD hS hl
    simp only [fX5_find_b27] at hf
    refine lv_iload_n hx hb dX5_find_27 rfl (lv_at hl 2 rfl) ?_
    refine lv_if_eq (tgt := 344) hx hb dX5_find_28 (by decide) (fun c_1 => ?_) (fun c_1 => ?_)
    · replace hf := pI_t c_1 hf
      exact wkX5_find_b344 C0 _ _ H locs ls hf hP hD hS (lv_sub hl [0] rfl)
    · replace hf := pI_f c_1 hf
      refine lv_aload_n hx hb dX5_find_31 rfl (lv_at hl 0 rfl) ?_
      refine lv_iload_n hx hb dX5_find_32 rfl (lv_at hl 1 rfl) ?_
      obtain ⟨z_2, hz_2, hf⟩ := pB_out hf
      refine gV (w' := (wM a0 a1 a2 a3 a4 a5 a6 a7 a8 a9 a10 a11 a12 a13 cI z_2)) (va_runV (As := [.int x2]) (rest := []) ⟨hx, hb, hml, hown, hts⟩ (ctX5_look l D cI a0 a1 a2 a3 a4 a5 a6 a7 a8 a9 a10 a11 a12 a13 u x2 z_2 hz_2 H.size) (cwV 1 hts gX5_find_X5_look rfl rfl rfl (by decide +kernel) ⟨Nat.le_of_ble_eq_true rfl, Nat.le_of_ble_eq_true rfl⟩) (gPreV (ci := 4) (C := RX5) (T := TX5) (N := 27) hP hK hD [0, 1, 2, 3, 4, 5, 6, 7, 8, 9, 10, 11, 12, 13] (by decide) rfl 0 rfl rfl) rfl rfl hl.1 rfl (lv_room (Nat.le_of_ble_eq_true rfl)) dX5_find_33 ⟨Nat.le_of_ble_eq_true rfl, Nat.le_of_ble_eq_true rfl⟩) hP hD hS hA [0, 1, 2, 3, 4, 5, 6, 7, 8, 9, 10, 11, 12, 13] [] [0, 1, 2, 3, 4, 5, 6, 7, 8, 9, 10, 11, 12, 13] rfl rfl (by decide) (by decide) rfl (by decide) (fun H locs hP hD hS => ?_)
      refine lv_aload_n hx hb dX5_find_36 rfl (lv_at hl 0 rfl) ?_
      refine va_get (D := D) (ci := 4) (v := .int (gM_kind z_2)) (C := RX5) (T := TX5) (N := 27) hx hb hts inX5_find_X5 hown hK hP 0 rfl rfl 18 (by decide) (hts (.fieldLink RX5 66 "BlockCacheModel" "kind" "I") (by decide +kernel)) (fun _ h9 => h9) rfl dX5_find_37 ?_
      refine lv_if_ne (tgt := 46) hx hb dX5_find_40 (by decide) (fun c_3 => ?_) (fun c_3 => ?_)
      · replace hf := pI_f c_3 hf
        refine lv_aload_n hx hb dX5_find_46 rfl (lv_at hl 0 rfl) ?_
        refine va_get (D := D) (ci := 4) (v := .ref a1) (C := RX5) (T := TX5) (N := 27) hx hb hts inX5_find_X5 hown hK hP 0 rfl rfl 1 (by decide) (hts (.fieldLink RX5 7 "BlockCacheModel" "memory" "[I") (by decide +kernel)) (fun _ h9 => h9) rfl dX5_find_47 ?_
        refine lv_iload_n hx hb dX5_find_50 rfl (lv_at hl 1 rfl) ?_
        obtain ⟨h_4, hf⟩ := pIn_out hf
        refine va_iald hx hb hK hP 1 0 rfl rfl h_4 dX5_find_51 ?_
        obtain ⟨x_5, ex_5, hf⟩ := pLet_out hf
        refine gTop ex_5 ?_
        refine lv_istore (lv' := [(5, .int x_5), (0, .ref a0), (2, .int x2), (3, .int x3), (4, .int x4)]) hx hb dX5_find_52 hl (by decide) rfl (fun ls hl => ?_)
        refine lv_aload_n hx hb dX5_find_54 rfl (lv_at hl 1 rfl) ?_
        refine va_get (D := D) (ci := 4) (v := .ref a13) (C := RX5) (T := TX5) (N := 27) hx hb hts inX5_find_X5 hown hK hP 0 rfl rfl 24 (by decide) (hts (.fieldLink RX5 53 "BlockCacheModel" "kinds" "[I") (by decide +kernel)) (fun _ h9 => h9) rfl dX5_find_55 ?_
        refine lv_aload_n hx hb dX5_find_58 rfl (lv_at hl 1 rfl) ?_
        refine va_get (D := D) (ci := 4) (v := .int (gM_foundMany z_2)) (C := RX5) (T := TX5) (N := 27) hx hb hts inX5_find_X5 hown hK hP 0 rfl rfl 20 (by decide) (hts (.fieldLink RX5 76 "BlockCacheModel" "foundMany" "I") (by decide +kernel)) (fun _ h9 => h9) rfl dX5_find_59 ?_
        refine lv_aload_n hx hb dX5_find_62 rfl (lv_at hl 1 rfl) ?_
        refine va_get (D := D) (ci := 4) (v := .int (gM_kind z_2)) (C := RX5) (T := TX5) (N := 27) hx hb hts inX5_find_X5 hown hK hP 0 rfl rfl 18 (by decide) (hts (.fieldLink RX5 66 "BlockCacheModel" "kind" "I") (by decide +kernel)) (fun _ h9 => h9) rfl dX5_find_63 ?_
        obtain ⟨h_6, hf⟩ := pIn_out hf
        refine va_iast hx hb hK hP hD hS 13 0 rfl rfl h_6 dX5_find_66 (fun H locs hP hD hS => ?_)
        obtain ⟨u_7, eu_7, hf⟩ := pLet_out hf
        replace hP : va_P D vwCl (wM a0 a1 a2 a3 a4 a5 a6 a7 a8 a9 a10 a11 a12 a13 cI u_7) H := by rw [eu_7]; exact hP
        replace hD : va_D A (wM a0 a1 a2 a3 a4 a5 a6 a7 a8 a9 a10 a11 a12 a13 cI u_7) := by rw [eu_7]; exact hD
        refine lv_aload_n hx hb dX5_find_67 rfl (lv_at hl 1 rfl) ?_
        refine lv_aload_n hx hb dX5_find_68 rfl (lv_at hl 1 rfl) ?_
        refine va_get (D := D) (ci := 4) (v := .int (gM_kind u_7)) (C := RX5) (T := TX5) (N := 27) hx hb hts inX5_find_X5 hown hK hP 0 rfl rfl 18 (by decide) (hts (.fieldLink RX5 66 "BlockCacheModel" "kind" "I") (by decide +kernel)) (fun _ h9 => h9) rfl dX5_find_69 ?_
        refine lv_iload hx hb dX5_find_72 (lv_at hl 0 rfl) ?_
        obtain ⟨z_8, hz_8, hf⟩ := pLet_out hf
        refine gI (w' := (wM a0 a1 a2 a3 a4 a5 a6 a7 a8 a9 a10 a11 a12 a13 cI u_7)) (va_runV (As := [.int (gM_kind u_7), .int x_5]) (rest := []) ⟨hx, hb, hml, hown, hts⟩ (ctX5_reads l D cI a0 a1 a2 a3 a4 a5 a6 a7 a8 a9 a10 a11 a12 a13 u_7 (gM_kind u_7) x_5 z_8 hz_8.symm H.size) (cwV 2 hts gX5_find_X5_reads rfl rfl rfl (by decide +kernel) ⟨Nat.le_of_ble_eq_true rfl, Nat.le_of_ble_eq_true rfl⟩) (gPreV (ci := 4) (C := RX5) (T := TX5) (N := 27) hP hK hD [0, 1, 2, 3, 4, 5, 6, 7, 8, 9, 10, 11, 12, 13] (by decide) rfl 0 rfl rfl) rfl rfl hl.1 rfl (lv_room (Nat.le_of_ble_eq_true rfl)) dX5_find_74 ⟨Nat.le_of_ble_eq_true rfl, Nat.le_of_ble_eq_true rfl⟩) hP hD hS hA [0, 1, 2, 3, 4, 5, 6, 7, 8, 9, 10, 11, 12, 13] [] [0, 1, 2, 3, 4, 5, 6, 7, 8, 9, 10, 11, 12, 13] rfl rfl (by decide) (by decide) rfl (by decide) (fun H locs hP hD hS => ?_)
        refine lv_if_ne (tgt := 107) hx hb dX5_find_77 (by decide) (fun c_9 => ?_) (fun c_9 => ?_)
        · replace hf := pI_f c_9 hf
          exact wkX5_find_b107 C0 ih _ _ _ _ H locs ls hf hP hD hS (lv_sub hl [1, 2, 0] rfl)
        · replace hf := pI_t c_9 hf
          refine lv_aload_n hx hb dX5_find_80 rfl (lv_at hl 1 rfl) ?_
          refine va_get (D := D) (ci := 4) (v := .int (gM_kind u_7)) (C := RX5) (T := TX5) (N := 27) hx hb hts inX5_find_X5 hown hK hP 0 rfl rfl 18 (by decide) (hts (.fieldLink RX5 66 "BlockCacheModel" "kind" "I") (by decide +kernel)) (fun _ h9 => h9) rfl dX5_find_81 ?_
          refine lv_bipush (v := 22) hx hb dX5_find_84 (by decide) ?_
          refine lv_icmp_eq (tgt := 107) hx hb dX5_find_86 (by decide) (fun c_10 => ?_) (fun c_10 => ?_)
          · replace hf := pI_t c_10 hf
            exact wkX5_find_b107 C0 ih _ _ _ _ H locs ls hf hP hD hS (lv_sub hl [1, 2, 0] rfl)
          · replace hf := pI_f c_10 hf
            refine lv_aload_n hx hb dX5_find_89 rfl (lv_at hl 1 rfl) ?_
            refine va_get (D := D) (ci := 4) (v := .int (gM_kind u_7)) (C := RX5) (T := TX5) (N := 27) hx hb hts inX5_find_X5 hown hK hP 0 rfl rfl 18 (by decide) (hts (.fieldLink RX5 66 "BlockCacheModel" "kind" "I") (by decide +kernel)) (fun _ h9 => h9) rfl dX5_find_90 ?_
            refine lv_bipush (v := 26) hx hb dX5_find_93 (by decide) ?_
            refine lv_icmp_eq (tgt := 107) hx hb dX5_find_95 (by decide) (fun c_11 => ?_) (fun c_11 => ?_)
            · replace hf := pI_t c_11 hf
              exact wkX5_find_b107 C0 ih _ _ _ _ H locs ls hf hP hD hS (lv_sub hl [1, 2, 0] rfl)
            · replace hf := pI_f c_11 hf
              refine lv_aload_n hx hb dX5_find_98 rfl (lv_at hl 1 rfl) ?_
              refine va_get (D := D) (ci := 4) (v := .int (gM_kind u_7)) (C := RX5) (T := TX5) (N := 27) hx hb hts inX5_find_X5 hown hK hP 0 rfl rfl 18 (by decide) (hts (.fieldLink RX5 66 "BlockCacheModel" "kind" "I") (by decide +kernel)) (fun _ h9 => h9) rfl dX5_find_99 ?_
              refine lv_bipush (v := 24) hx hb dX5_find_102 (by decide) ?_
              refine lv_icmp_ne (tgt := 110) hx hb dX5_find_104 (by decide) (fun c_12 => ?_) (fun c_12 => ?_)
              · replace hf := pI_f c_12 hf
                exact wkX5_find_b110 C0 ih _ _ _ _ _ H locs ls hf hP hD hS (lv_sub hl [1, 2, 4, 0] rfl)
              · replace hf := pI_t c_12 hf
                exact wkX5_find_b107 C0 ih _ _ _ _ H locs ls hf hP hD hS (lv_sub hl [1, 2, 0] rfl)
      · replace hf := pI_t c_3 hf
        refine lv_goto (tgt := 344) hx hb dX5_find_43 (by decide) ?_
        exact wkX5_find_b344 C0 _ _ H locs ls hf hP hD hS (lv_sub hl [0] rfl)
set_option maxRecDepth 100000 in
set_option maxHeartbeats 4000000 in
theorem wkX5_find {p : Program} {l : Launch} {e : Env} {s : State} {m : MethodId} {args : Array Value} {below : List Frame} {meth : Method} {c : Code} {D : va_G} {cI : ClassId} {A : Nat → Prop} {a0 a1 a2 a3 a4 a5 a6 a7 a8 a9 a10 a11 a12 a13 : Nat} (C : cxt p s m args meth c cX5_find none 7 RX5 wsX5_find D vwCl [(cI, .int)] A) : ∀ (z : TM) (u : TM) (x1 : Int32) (H : Heap) (locs : List Loc) (ls : Array Slot), fX5_find u x1 = some z → va_P D vwCl (wM a0 a1 a2 a3 a4 a5 a6 a7 a8 a9 a10 a11 a12 a13 cI u) H → va_D A (wM a0 a1 a2 a3 a4 a5 a6 a7 a8 a9 a10 a11 a12 a13 cI u) → va_S A s.heap H locs → lv_has ls 7 [(0, .ref a0), (1, .int x1)] → W p l e rmX5_find s m args below meth c H locs 0 0 (MQ below (oV D vwCl [(cI, .int)] A (wM a0 a1 a2 a3 a4 a5 a6 a7 a8 a9 a10 a11 a12 a13 cI z)) args s 0 0 A) (F0 m 0 ls []) := by
  have C0 := C
  obtain ⟨hx, hb, hr, hml, hown, hts, hlocks, hK, hA⟩ := C
  intro z u x1 H locs ls hf hP hD hS hl
  unfold fX5_find at hf
  refine lv_aload_n hx hb dX5_find_0 rfl (lv_at hl 0 rfl) ?_
  refine lv_iconst (v := 0) hx hb dX5_find_1 (by decide) ?_
  refine va_put (D := D) (ci := 4) (v := .int 0) (ty := .int) (C := RX5) (T := TX5) (N := 27) hx hb hts inX5_find_X5 tyX5 tyX5_ok nmX5 hown hK hP hD hS 0 rfl rfl 20 (by decide) (hts (.fieldLink RX5 76 "BlockCacheModel" "foundMany" "I") (by decide +kernel)) (fun _ h9 => h9) rfl (by decide +kernel) rfl rfl (Nat.le_of_ble_eq_true rfl) dX5_find_2 (fun H locs hP hD hS => ?_)
  obtain ⟨u_1, eu_1, hf⟩ := pLet_out hf
  replace hP : va_P D vwCl (wM a0 a1 a2 a3 a4 a5 a6 a7 a8 a9 a10 a11 a12 a13 cI u_1) H := by rw [eu_1]; exact hP
  replace hD : va_D A (wM a0 a1 a2 a3 a4 a5 a6 a7 a8 a9 a10 a11 a12 a13 cI u_1) := by rw [eu_1]; exact hD
  refine lv_aload_n hx hb dX5_find_5 rfl (lv_at hl 0 rfl) ?_
  refine lv_iconst (v := 0) hx hb dX5_find_6 (by decide) ?_
  refine va_put (D := D) (ci := 4) (v := .int 0) (ty := .int) (C := RX5) (T := TX5) (N := 27) hx hb hts inX5_find_X5 tyX5 tyX5_ok nmX5 hown hK hP hD hS 0 rfl rfl 21 (by decide) (hts (.fieldLink RX5 79 "BlockCacheModel" "foundSize" "I") (by decide +kernel)) (fun _ h9 => h9) rfl (by decide +kernel) rfl rfl (Nat.le_of_ble_eq_true rfl) dX5_find_7 (fun H locs hP hD hS => ?_)
  obtain ⟨u_2, eu_2, hf⟩ := pLet_out hf
  replace hP : va_P D vwCl (wM a0 a1 a2 a3 a4 a5 a6 a7 a8 a9 a10 a11 a12 a13 cI u_2) H := by rw [eu_2]; exact hP
  replace hD : va_D A (wM a0 a1 a2 a3 a4 a5 a6 a7 a8 a9 a10 a11 a12 a13 cI u_2) := by rw [eu_2]; exact hD
  refine lv_aload_n hx hb dX5_find_10 rfl (lv_at hl 0 rfl) ?_
  refine lv_iconst (v := 0) hx hb dX5_find_11 (by decide) ?_
  refine va_put (D := D) (ci := 4) (v := .int 0) (ty := .int) (C := RX5) (T := TX5) (N := 27) hx hb hts inX5_find_X5 tyX5 tyX5_ok nmX5 hown hK hP hD hS 0 rfl rfl 22 (by decide) (hts (.fieldLink RX5 82 "BlockCacheModel" "foundPages" "I") (by decide +kernel)) (fun _ h9 => h9) rfl (by decide +kernel) rfl rfl (Nat.le_of_ble_eq_true rfl) dX5_find_12 (fun H locs hP hD hS => ?_)
  obtain ⟨u_3, eu_3, hf⟩ := pLet_out hf
  replace hP : va_P D vwCl (wM a0 a1 a2 a3 a4 a5 a6 a7 a8 a9 a10 a11 a12 a13 cI u_3) H := by rw [eu_3]; exact hP
  replace hD : va_D A (wM a0 a1 a2 a3 a4 a5 a6 a7 a8 a9 a10 a11 a12 a13 cI u_3) := by rw [eu_3]; exact hD
  refine lv_aload_n hx hb dX5_find_15 rfl (lv_at hl 0 rfl) ?_
  refine lv_iconst (v := 0) hx hb dX5_find_16 (by decide) ?_
  refine va_put (D := D) (ci := 4) (v := .int 0) (ty := .int) (C := RX5) (T := TX5) (N := 27) hx hb hts inX5_find_X5 tyX5 tyX5_ok nmX5 hown hK hP hD hS 0 rfl rfl 23 (by decide) (hts (.fieldLink RX5 85 "BlockCacheModel" "foundDead" "I") (by decide +kernel)) (fun _ h9 => h9) rfl (by decide +kernel) rfl rfl (Nat.le_of_ble_eq_true rfl) dX5_find_17 (fun H locs hP hD hS => ?_)
  obtain ⟨u_4, eu_4, hf⟩ := pLet_out hf
  replace hP : va_P D vwCl (wM a0 a1 a2 a3 a4 a5 a6 a7 a8 a9 a10 a11 a12 a13 cI u_4) H := by rw [eu_4]; exact hP
  replace hD : va_D A (wM a0 a1 a2 a3 a4 a5 a6 a7 a8 a9 a10 a11 a12 a13 cI u_4) := by rw [eu_4]; exact hD
  refine lv_iload_n hx hb dX5_find_20 rfl (lv_at hl 1 rfl) ?_
  refine lv_istore_n (lv' := [(2, .int x1), (0, .ref a0), (1, .int x1)]) hx hb dX5_find_21 rfl hl (by decide) rfl (fun ls hl => ?_)
  refine lv_iconst (v := 1) hx hb dX5_find_22 (by decide) ?_
  refine lv_istore_n (lv' := [(3, .int 1), (2, .int x1), (0, .ref a0), (1, .int x1)]) hx hb dX5_find_23 rfl hl (by decide) rfl (fun ls hl => ?_)
  refine lv_iconst (v := (-1)) hx hb dX5_find_24 (by decide) ?_
  refine lv_istore (lv' := [(4, .int (-1)), (3, .int 1), (2, .int x1), (0, .ref a0), (1, .int x1)]) hx hb dX5_find_25 hl (by decide) rfl (fun ls hl => ?_)
  exact wkX5_find_b27 C0 fuelX5_find_27 _ _ _ _ _ H locs ls hf hP hD hS (lv_sub hl [3, 2, 1, 0] rfl)
theorem ctX5_find (l : Launch) (D : va_G) (cI : ClassId) (a0 a1 a2 a3 a4 a5 a6 a7 a8 a9 a10 a11 a12 a13 : Nat) (u : TM) (x1 : Int32) (z : TM) (hz : fX5_find u x1 = some z) : CtV l yX5_find wsX5_find rmX5_find D vwCl [(cI, .int)] [.ref a0, .int x1] (wM a0 a1 a2 a3 a4 a5 a6 a7 a8 a9 a10 a11 a12 a13 cI u) (wM a0 a1 a2 a3 a4 a5 a6 a7 a8 a9 a10 a11 a12 a13 cI z) :=
  ctV_of (cc := cX5_find) (maxL := 7) (ret := none) (by decide) rfl (Nat.le_of_ble_eq_true rfl) (fun p e s m below meth c A ls C hl hP hD hS => wkX5_find C z _ _ s.heap [] ls hz hP hD hS hl)

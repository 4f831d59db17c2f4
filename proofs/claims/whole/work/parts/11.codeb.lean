abbrev rmX1_needsFlags : Room := { frames := 0, cells := 0, slots := 0, locals := 0 }
set_option maxRecDepth 100000 in
set_option maxHeartbeats 4000000 in
theorem wkX1_needsFlags {p : Program} {l : Launch} {e : Env} {s : State} {m : MethodId} {args : Array Value} {below : List Frame} {meth : Method} {c : Code} {D : va_G} {cI : ClassId} {A : Nat → Prop} (C : cxt p s m args meth c cX1_needsFlags (some .boolean) 1 RX1 wsX1_needsFlags D vwCl [(cI, .int)] A) : ∀ (z : Int32) (x0 : Int32) (H : Heap) (locs : List Loc) (ls : Array Slot), fX1_needsFlags x0 = z → va_P D vwCl ([] : va_W) H → va_D A ([] : va_W) → va_S A s.heap H locs → lv_has ls 1 [(0, .int x0)] → W p l e rmX1_needsFlags s m args below meth c H locs 0 0 (MQ below (oI D vwCl [(cI, .int)] A z ([] : va_W)) args s 0 0 A) (F0 m 0 ls []) := by
  have C0 := C
  obtain ⟨hx, hb, hr, hml, hown, hts, hlocks, hK, hA⟩ := C
  intro z x0 H locs ls hf hP hD hS hl
  unfold fX1_needsFlags at hf
  refine lv_iload_n hx hb dX1_needsFlags_0 rfl (lv_at hl 0 rfl) ?_
  by_cases c_1 : x0 = 8
  · replace hf := pI_t c_1 hf
    refine lv_tableIn (tgt := 96) (off := 95) hx hb dX1_needsFlags_1 (by rw [c_1]; decide) (by rw [c_1]; decide) (by rw [c_1]; rfl) (by decide) ?_
    refine lv_iconst (v := 1) hx hb dX1_needsFlags_96 (by decide) ?_
    have hz := hf
    subst hz
    exact gRetZ hx hb hr hlocks hK hP hD hS (by decide) rfl rfl dX1_needsFlags_97
  · replace hf := pI_f c_1 hf
    by_cases c_2 : x0 = 15
    · replace hf := pI_t c_2 hf
      refine lv_tableIn (tgt := 96) (off := 95) hx hb dX1_needsFlags_1 (by rw [c_2]; decide) (by rw [c_2]; decide) (by rw [c_2]; rfl) (by decide) ?_
      refine lv_iconst (v := 1) hx hb dX1_needsFlags_96 (by decide) ?_
      have hz := hf
      subst hz
      exact gRetZ hx hb hr hlocks hK hP hD hS (by decide) rfl rfl dX1_needsFlags_97
    · replace hf := pI_f c_2 hf
      by_cases c_3 : x0 = 16
      · replace hf := pI_t c_3 hf
        refine lv_tableIn (tgt := 96) (off := 95) hx hb dX1_needsFlags_1 (by rw [c_3]; decide) (by rw [c_3]; decide) (by rw [c_3]; rfl) (by decide) ?_
        refine lv_iconst (v := 1) hx hb dX1_needsFlags_96 (by decide) ?_
        have hz := hf
        subst hz
        exact gRetZ hx hb hr hlocks hK hP hD hS (by decide) rfl rfl dX1_needsFlags_97
      · replace hf := pI_f c_3 hf
        by_cases c_4 : x0 = 22
        · replace hf := pI_t c_4 hf
          refine lv_tableIn (tgt := 96) (off := 95) hx hb dX1_needsFlags_1 (by rw [c_4]; decide) (by rw [c_4]; decide) (by rw [c_4]; rfl) (by decide) ?_
          refine lv_iconst (v := 1) hx hb dX1_needsFlags_96 (by decide) ?_
          have hz := hf
          subst hz
          exact gRetZ hx hb hr hlocks hK hP hD hS (by decide) rfl rfl dX1_needsFlags_97
        · replace hf := pI_f c_4 hf
          by_cases c_5 : x0 = 24
          · replace hf := pI_t c_5 hf
            refine lv_tableIn (tgt := 96) (off := 95) hx hb dX1_needsFlags_1 (by rw [c_5]; decide) (by rw [c_5]; decide) (by rw [c_5]; rfl) (by decide) ?_
            refine lv_iconst (v := 1) hx hb dX1_needsFlags_96 (by decide) ?_
            have hz := hf
            subst hz
            exact gRetZ hx hb hr hlocks hK hP hD hS (by decide) rfl rfl dX1_needsFlags_97
          · replace hf := pI_f c_5 hf
            by_cases c_6 : x0 = 25
            · replace hf := pI_t c_6 hf
              refine lv_tableIn (tgt := 96) (off := 95) hx hb dX1_needsFlags_1 (by rw [c_6]; decide) (by rw [c_6]; decide) (by rw [c_6]; rfl) (by decide) ?_
              refine lv_iconst (v := 1) hx hb dX1_needsFlags_96 (by decide) ?_
              have hz := hf
              subst hz
              exact gRetZ hx hb hr hlocks hK hP hD hS (by decide) rfl rfl dX1_needsFlags_97
            · replace hf := pI_f c_6 hf
              by_cases c_7 : x0 = 27
              · replace hf := pI_t c_7 hf
                refine lv_tableIn (tgt := 96) (off := 95) hx hb dX1_needsFlags_1 (by rw [c_7]; decide) (by rw [c_7]; decide) (by rw [c_7]; rfl) (by decide) ?_
                refine lv_iconst (v := 1) hx hb dX1_needsFlags_96 (by decide) ?_
                have hz := hf
                subst hz
                exact gRetZ hx hb hr hlocks hK hP hD hS (by decide) rfl rfl dX1_needsFlags_97
              · replace hf := pI_f c_7 hf
                have hdef : W p l e rmX1_needsFlags s m args below meth c H locs 0 0 (MQ below (oI D vwCl [(cI, .int)] A z ([] : va_W)) args s 0 0 A) (F0 m 98 ls []) := by
                  refine lv_iconst (v := 0) hx hb dX1_needsFlags_98 (by decide) ?_
                  have hz := hf
                  subst hz
                  exact gRetZ hx hb hr hlocks hK hP hD hS (by decide) rfl rfl dX1_needsFlags_99
                by_cases c_8 : x0 = 9
                · refine lv_tableIn (tgt := 98) (off := 97) hx hb dX1_needsFlags_1 (by rw [c_8]; decide) (by rw [c_8]; decide) (by rw [c_8]; rfl) (by decide) ?_
                  exact hdef
                by_cases c_9 : x0 = 10
                · refine lv_tableIn (tgt := 98) (off := 97) hx hb dX1_needsFlags_1 (by rw [c_9]; decide) (by rw [c_9]; decide) (by rw [c_9]; rfl) (by decide) ?_
                  exact hdef
                by_cases c_10 : x0 = 11
                · refine lv_tableIn (tgt := 98) (off := 97) hx hb dX1_needsFlags_1 (by rw [c_10]; decide) (by rw [c_10]; decide) (by rw [c_10]; rfl) (by decide) ?_
                  exact hdef
                by_cases c_11 : x0 = 12
                · refine lv_tableIn (tgt := 98) (off := 97) hx hb dX1_needsFlags_1 (by rw [c_11]; decide) (by rw [c_11]; decide) (by rw [c_11]; rfl) (by decide) ?_
                  exact hdef
                by_cases c_12 : x0 = 13
                · refine lv_tableIn (tgt := 98) (off := 97) hx hb dX1_needsFlags_1 (by rw [c_12]; decide) (by rw [c_12]; decide) (by rw [c_12]; rfl) (by decide) ?_
                  exact hdef
                by_cases c_13 : x0 = 14
                · refine lv_tableIn (tgt := 98) (off := 97) hx hb dX1_needsFlags_1 (by rw [c_13]; decide) (by rw [c_13]; decide) (by rw [c_13]; rfl) (by decide) ?_
                  exact hdef
                by_cases c_14 : x0 = 17
                · refine lv_tableIn (tgt := 98) (off := 97) hx hb dX1_needsFlags_1 (by rw [c_14]; decide) (by rw [c_14]; decide) (by rw [c_14]; rfl) (by decide) ?_
                  exact hdef
                by_cases c_15 : x0 = 18
                · refine lv_tableIn (tgt := 98) (off := 97) hx hb dX1_needsFlags_1 (by rw [c_15]; decide) (by rw [c_15]; decide) (by rw [c_15]; rfl) (by decide) ?_
                  exact hdef
                by_cases c_16 : x0 = 19
                · refine lv_tableIn (tgt := 98) (off := 97) hx hb dX1_needsFlags_1 (by rw [c_16]; decide) (by rw [c_16]; decide) (by rw [c_16]; rfl) (by decide) ?_
                  exact hdef
                by_cases c_17 : x0 = 20
                · refine lv_tableIn (tgt := 98) (off := 97) hx hb dX1_needsFlags_1 (by rw [c_17]; decide) (by rw [c_17]; decide) (by rw [c_17]; rfl) (by decide) ?_
                  exact hdef
                by_cases c_18 : x0 = 21
                · refine lv_tableIn (tgt := 98) (off := 97) hx hb dX1_needsFlags_1 (by rw [c_18]; decide) (by rw [c_18]; decide) (by rw [c_18]; rfl) (by decide) ?_
                  exact hdef
                by_cases c_19 : x0 = 23
                · refine lv_tableIn (tgt := 98) (off := 97) hx hb dX1_needsFlags_1 (by rw [c_19]; decide) (by rw [c_19]; decide) (by rw [c_19]; rfl) (by decide) ?_
                  exact hdef
                by_cases c_20 : x0 = 26
                · refine lv_tableIn (tgt := 98) (off := 97) hx hb dX1_needsFlags_1 (by rw [c_20]; decide) (by rw [c_20]; decide) (by rw [c_20]; rfl) (by decide) ?_
                  exact hdef
                have nc_1 := lv_neT (k := 8) (a := 8) c_1 (by decide)
                have nc_2 := lv_neT (k := 15) (a := 15) c_2 (by decide)
                have nc_3 := lv_neT (k := 16) (a := 16) c_3 (by decide)
                have nc_4 := lv_neT (k := 22) (a := 22) c_4 (by decide)
                have nc_5 := lv_neT (k := 24) (a := 24) c_5 (by decide)
                have nc_6 := lv_neT (k := 25) (a := 25) c_6 (by decide)
                have nc_7 := lv_neT (k := 27) (a := 27) c_7 (by decide)
                have nc_8 := lv_neT (k := 9) (a := 9) c_8 (by decide)
                have nc_9 := lv_neT (k := 10) (a := 10) c_9 (by decide)
                have nc_10 := lv_neT (k := 11) (a := 11) c_10 (by decide)
                have nc_11 := lv_neT (k := 12) (a := 12) c_11 (by decide)
                have nc_12 := lv_neT (k := 13) (a := 13) c_12 (by decide)
                have nc_13 := lv_neT (k := 14) (a := 14) c_13 (by decide)
                have nc_14 := lv_neT (k := 17) (a := 17) c_14 (by decide)
                have nc_15 := lv_neT (k := 18) (a := 18) c_15 (by decide)
                have nc_16 := lv_neT (k := 19) (a := 19) c_16 (by decide)
                have nc_17 := lv_neT (k := 20) (a := 20) c_17 (by decide)
                have nc_18 := lv_neT (k := 21) (a := 21) c_18 (by decide)
                have nc_19 := lv_neT (k := 23) (a := 23) c_19 (by decide)
                have nc_20 := lv_neT (k := 26) (a := 26) c_20 (by decide)
                refine lv_tableOut (tgt := 98) hx hb dX1_needsFlags_1 (by omega) (by decide) ?_
                exact hdef
theorem ctX1_needsFlags (l : Launch) (D : va_G) (cI : ClassId) (x0 : Int32) (z : Int32) (hz : fX1_needsFlags x0 = z) : CtI l yX1_needsFlags wsX1_needsFlags rmX1_needsFlags D vwCl [(cI, .int)] [.int x0] ([] : va_W) z ([] : va_W) :=
  ctI_of (cc := cX1_needsFlags) (maxL := 1) (ret := (some .boolean)) (by decide) rfl (Nat.le_of_ble_eq_true rfl) (fun p e s m below meth c A ls C hl hP hD hS => wkX1_needsFlags C z _ s.heap [] ls hz hP hD hS hl)
abbrev rmX1_sizeWithoutFlags : Room := { frames := 0, cells := 0, slots := 0, locals := 0 }
set_option maxRecDepth 100000 in
set_option maxHeartbeats 4000000 in
theorem wkX1_sizeWithoutFlags {p : Program} {l : Launch} {e : Env} {s : State} {m : MethodId} {args : Array Value} {below : List Frame} {meth : Method} {c : Code} {D : va_G} {cI : ClassId} {A : Nat → Prop} (C : cxt p s m args meth c cX1_sizeWithoutFlags (some .int) 1 RX1 wsX1_sizeWithoutFlags D vwCl [(cI, .int)] A) : ∀ (z : Int32) (x0 : Int32) (H : Heap) (locs : List Loc) (ls : Array Slot), fX1_sizeWithoutFlags x0 = z → va_P D vwCl ([] : va_W) H → va_D A ([] : va_W) → va_S A s.heap H locs → lv_has ls 1 [(0, .int x0)] → W p l e rmX1_sizeWithoutFlags s m args below meth c H locs 0 0 (MQ below (oI D vwCl [(cI, .int)] A z ([] : va_W)) args s 0 0 A) (F0 m 0 ls []) := by
  have C0 := C
  obtain ⟨hx, hb, hr, hml, hown, hts, hlocks, hK, hA⟩ := C
  intro z x0 H locs ls hf hP hD hS hl
  unfold fX1_sizeWithoutFlags at hf
  refine lv_iload_n hx hb dX1_sizeWithoutFlags_0 rfl (lv_at hl 0 rfl) ?_
  by_cases c_1 : x0 = 7
  · replace hf := pI_t c_1 hf
    refine lv_tableIn (tgt := 108) (off := 107) hx hb dX1_sizeWithoutFlags_1 (by rw [c_1]; decide) (by rw [c_1]; decide) (by rw [c_1]; rfl) (by decide) ?_
    refine lv_iconst (v := 2) hx hb dX1_sizeWithoutFlags_108 (by decide) ?_
    have hz := hf
    subst hz
    exact gRetI hx hb hr hlocks hK hP hD hS rfl rfl dX1_sizeWithoutFlags_109
  · replace hf := pI_f c_1 hf
    by_cases c_2 : x0 = 8
    · replace hf := pI_t c_2 hf
      refine lv_tableIn (tgt := 110) (off := 109) hx hb dX1_sizeWithoutFlags_1 (by rw [c_2]; decide) (by rw [c_2]; decide) (by rw [c_2]; rfl) (by decide) ?_
      refine lv_iconst (v := 3) hx hb dX1_sizeWithoutFlags_110 (by decide) ?_
      have hz := hf
      subst hz
      exact gRetI hx hb hr hlocks hK hP hD hS rfl rfl dX1_sizeWithoutFlags_111
    · replace hf := pI_f c_2 hf
      by_cases c_3 : x0 = 9
      · replace hf := pI_t c_3 hf
        refine lv_tableIn (tgt := 108) (off := 107) hx hb dX1_sizeWithoutFlags_1 (by rw [c_3]; decide) (by rw [c_3]; decide) (by rw [c_3]; rfl) (by decide) ?_
        refine lv_iconst (v := 2) hx hb dX1_sizeWithoutFlags_108 (by decide) ?_
        have hz := hf
        subst hz
        exact gRetI hx hb hr hlocks hK hP hD hS rfl rfl dX1_sizeWithoutFlags_109
      · replace hf := pI_f c_3 hf
        by_cases c_4 : x0 = 10
        · replace hf := pI_t c_4 hf
          refine lv_tableIn (tgt := 108) (off := 107) hx hb dX1_sizeWithoutFlags_1 (by rw [c_4]; decide) (by rw [c_4]; decide) (by rw [c_4]; rfl) (by decide) ?_
          refine lv_iconst (v := 2) hx hb dX1_sizeWithoutFlags_108 (by decide) ?_
          have hz := hf
          subst hz
          exact gRetI hx hb hr hlocks hK hP hD hS rfl rfl dX1_sizeWithoutFlags_109
        · replace hf := pI_f c_4 hf
          by_cases c_5 : x0 = 13
          · replace hf := pI_t c_5 hf
            refine lv_tableIn (tgt := 108) (off := 107) hx hb dX1_sizeWithoutFlags_1 (by rw [c_5]; decide) (by rw [c_5]; decide) (by rw [c_5]; rfl) (by decide) ?_
            refine lv_iconst (v := 2) hx hb dX1_sizeWithoutFlags_108 (by decide) ?_
            have hz := hf
            subst hz
            exact gRetI hx hb hr hlocks hK hP hD hS rfl rfl dX1_sizeWithoutFlags_109
          · replace hf := pI_f c_5 hf
            by_cases c_6 : x0 = 15
            · replace hf := pI_t c_6 hf
              refine lv_tableIn (tgt := 110) (off := 109) hx hb dX1_sizeWithoutFlags_1 (by rw [c_6]; decide) (by rw [c_6]; decide) (by rw [c_6]; rfl) (by decide) ?_
              refine lv_iconst (v := 3) hx hb dX1_sizeWithoutFlags_110 (by decide) ?_
              have hz := hf
              subst hz
              exact gRetI hx hb hr hlocks hK hP hD hS rfl rfl dX1_sizeWithoutFlags_111
            · replace hf := pI_f c_6 hf
              by_cases c_7 : x0 = 16
              · replace hf := pI_t c_7 hf
                refine lv_tableIn (tgt := 110) (off := 109) hx hb dX1_sizeWithoutFlags_1 (by rw [c_7]; decide) (by rw [c_7]; decide) (by rw [c_7]; rfl) (by decide) ?_
                refine lv_iconst (v := 3) hx hb dX1_sizeWithoutFlags_110 (by decide) ?_
                have hz := hf
                subst hz
                exact gRetI hx hb hr hlocks hK hP hD hS rfl rfl dX1_sizeWithoutFlags_111
              · replace hf := pI_f c_7 hf
                by_cases c_8 : x0 = 18
                · replace hf := pI_t c_8 hf
                  refine lv_tableIn (tgt := 110) (off := 109) hx hb dX1_sizeWithoutFlags_1 (by rw [c_8]; decide) (by rw [c_8]; decide) (by rw [c_8]; rfl) (by decide) ?_
                  refine lv_iconst (v := 3) hx hb dX1_sizeWithoutFlags_110 (by decide) ?_
                  have hz := hf
                  subst hz
                  exact gRetI hx hb hr hlocks hK hP hD hS rfl rfl dX1_sizeWithoutFlags_111
                · replace hf := pI_f c_8 hf
                  by_cases c_9 : x0 = 19
                  · replace hf := pI_t c_9 hf
                    refine lv_tableIn (tgt := 110) (off := 109) hx hb dX1_sizeWithoutFlags_1 (by rw [c_9]; decide) (by rw [c_9]; decide) (by rw [c_9]; rfl) (by decide) ?_
                    refine lv_iconst (v := 3) hx hb dX1_sizeWithoutFlags_110 (by decide) ?_
                    have hz := hf
                    subst hz
                    exact gRetI hx hb hr hlocks hK hP hD hS rfl rfl dX1_sizeWithoutFlags_111
                  · replace hf := pI_f c_9 hf
                    by_cases c_10 : x0 = 20
                    · replace hf := pI_t c_10 hf
                      refine lv_tableIn (tgt := 108) (off := 107) hx hb dX1_sizeWithoutFlags_1 (by rw [c_10]; decide) (by rw [c_10]; decide) (by rw [c_10]; rfl) (by decide) ?_
                      refine lv_iconst (v := 2) hx hb dX1_sizeWithoutFlags_108 (by decide) ?_
                      have hz := hf
                      subst hz
                      exact gRetI hx hb hr hlocks hK hP hD hS rfl rfl dX1_sizeWithoutFlags_109
                    · replace hf := pI_f c_10 hf
                      by_cases c_11 : x0 = 21
                      · replace hf := pI_t c_11 hf
                        refine lv_tableIn (tgt := 112) (off := 111) hx hb dX1_sizeWithoutFlags_1 (by rw [c_11]; decide) (by rw [c_11]; decide) (by rw [c_11]; rfl) (by decide) ?_
                        refine lv_iconst (v := 4) hx hb dX1_sizeWithoutFlags_112 (by decide) ?_
                        have hz := hf
                        subst hz
                        exact gRetI hx hb hr hlocks hK hP hD hS rfl rfl dX1_sizeWithoutFlags_113
                      · replace hf := pI_f c_11 hf
                        by_cases c_12 : x0 = 22
                        · replace hf := pI_t c_12 hf
                          refine lv_tableIn (tgt := 112) (off := 111) hx hb dX1_sizeWithoutFlags_1 (by rw [c_12]; decide) (by rw [c_12]; decide) (by rw [c_12]; rfl) (by decide) ?_
                          refine lv_iconst (v := 4) hx hb dX1_sizeWithoutFlags_112 (by decide) ?_
                          have hz := hf
                          subst hz
                          exact gRetI hx hb hr hlocks hK hP hD hS rfl rfl dX1_sizeWithoutFlags_113
                        · replace hf := pI_f c_12 hf
                          by_cases c_13 : x0 = 24
                          · replace hf := pI_t c_13 hf
                            refine lv_tableIn (tgt := 110) (off := 109) hx hb dX1_sizeWithoutFlags_1 (by rw [c_13]; decide) (by rw [c_13]; decide) (by rw [c_13]; rfl) (by decide) ?_
                            refine lv_iconst (v := 3) hx hb dX1_sizeWithoutFlags_110 (by decide) ?_
                            have hz := hf
                            subst hz
                            exact gRetI hx hb hr hlocks hK hP hD hS rfl rfl dX1_sizeWithoutFlags_111
                          · replace hf := pI_f c_13 hf
                            by_cases c_14 : x0 = 25
                            · replace hf := pI_t c_14 hf
                              refine lv_tableIn (tgt := 110) (off := 109) hx hb dX1_sizeWithoutFlags_1 (by rw [c_14]; decide) (by rw [c_14]; decide) (by rw [c_14]; rfl) (by decide) ?_
                              refine lv_iconst (v := 3) hx hb dX1_sizeWithoutFlags_110 (by decide) ?_
                              have hz := hf
                              subst hz
                              exact gRetI hx hb hr hlocks hK hP hD hS rfl rfl dX1_sizeWithoutFlags_111
                            · replace hf := pI_f c_14 hf
                              by_cases c_15 : x0 = 26
                              · replace hf := pI_t c_15 hf
                                refine lv_tableIn (tgt := 108) (off := 107) hx hb dX1_sizeWithoutFlags_1 (by rw [c_15]; decide) (by rw [c_15]; decide) (by rw [c_15]; rfl) (by decide) ?_
                                refine lv_iconst (v := 2) hx hb dX1_sizeWithoutFlags_108 (by decide) ?_
                                have hz := hf
                                subst hz
                                exact gRetI hx hb hr hlocks hK hP hD hS rfl rfl dX1_sizeWithoutFlags_109
                              · replace hf := pI_f c_15 hf
                                by_cases c_16 : x0 = 29
                                · replace hf := pI_t c_16 hf
                                  refine lv_tableIn (tgt := 112) (off := 111) hx hb dX1_sizeWithoutFlags_1 (by rw [c_16]; decide) (by rw [c_16]; decide) (by rw [c_16]; rfl) (by decide) ?_
                                  refine lv_iconst (v := 4) hx hb dX1_sizeWithoutFlags_112 (by decide) ?_
                                  have hz := hf
                                  subst hz
                                  exact gRetI hx hb hr hlocks hK hP hD hS rfl rfl dX1_sizeWithoutFlags_113
                                · replace hf := pI_f c_16 hf
                                  have hdef : W p l e rmX1_sizeWithoutFlags s m args below meth c H locs 0 0 (MQ below (oI D vwCl [(cI, .int)] A z ([] : va_W)) args s 0 0 A) (F0 m 114 ls []) := by
                                    refine lv_iconst (v := 1) hx hb dX1_sizeWithoutFlags_114 (by decide) ?_
                                    have hz := hf
                                    subst hz
                                    exact gRetI hx hb hr hlocks hK hP hD hS rfl rfl dX1_sizeWithoutFlags_115
                                  by_cases c_17 : x0 = 11
                                  · refine lv_tableIn (tgt := 114) (off := 113) hx hb dX1_sizeWithoutFlags_1 (by rw [c_17]; decide) (by rw [c_17]; decide) (by rw [c_17]; rfl) (by decide) ?_
                                    exact hdef
                                  by_cases c_18 : x0 = 12
                                  · refine lv_tableIn (tgt := 114) (off := 113) hx hb dX1_sizeWithoutFlags_1 (by rw [c_18]; decide) (by rw [c_18]; decide) (by rw [c_18]; rfl) (by decide) ?_
                                    exact hdef
                                  by_cases c_19 : x0 = 14
                                  · refine lv_tableIn (tgt := 114) (off := 113) hx hb dX1_sizeWithoutFlags_1 (by rw [c_19]; decide) (by rw [c_19]; decide) (by rw [c_19]; rfl) (by decide) ?_
                                    exact hdef
                                  by_cases c_20 : x0 = 17
                                  · refine lv_tableIn (tgt := 114) (off := 113) hx hb dX1_sizeWithoutFlags_1 (by rw [c_20]; decide) (by rw [c_20]; decide) (by rw [c_20]; rfl) (by decide) ?_
                                    exact hdef
                                  by_cases c_21 : x0 = 23
                                  · refine lv_tableIn (tgt := 114) (off := 113) hx hb dX1_sizeWithoutFlags_1 (by rw [c_21]; decide) (by rw [c_21]; decide) (by rw [c_21]; rfl) (by decide) ?_
                                    exact hdef
                                  by_cases c_22 : x0 = 27
                                  · refine lv_tableIn (tgt := 114) (off := 113) hx hb dX1_sizeWithoutFlags_1 (by rw [c_22]; decide) (by rw [c_22]; decide) (by rw [c_22]; rfl) (by decide) ?_
                                    exact hdef
                                  by_cases c_23 : x0 = 28
                                  · refine lv_tableIn (tgt := 114) (off := 113) hx hb dX1_sizeWithoutFlags_1 (by rw [c_23]; decide) (by rw [c_23]; decide) (by rw [c_23]; rfl) (by decide) ?_
                                    exact hdef
                                  have nc_1 := lv_neT (k := 7) (a := 7) c_1 (by decide)
                                  have nc_2 := lv_neT (k := 8) (a := 8) c_2 (by decide)
                                  have nc_3 := lv_neT (k := 9) (a := 9) c_3 (by decide)
                                  have nc_4 := lv_neT (k := 10) (a := 10) c_4 (by decide)
                                  have nc_5 := lv_neT (k := 13) (a := 13) c_5 (by decide)
                                  have nc_6 := lv_neT (k := 15) (a := 15) c_6 (by decide)
                                  have nc_7 := lv_neT (k := 16) (a := 16) c_7 (by decide)
                                  have nc_8 := lv_neT (k := 18) (a := 18) c_8 (by decide)
                                  have nc_9 := lv_neT (k := 19) (a := 19) c_9 (by decide)
                                  have nc_10 := lv_neT (k := 20) (a := 20) c_10 (by decide)
                                  have nc_11 := lv_neT (k := 21) (a := 21) c_11 (by decide)
                                  have nc_12 := lv_neT (k := 22) (a := 22) c_12 (by decide)
                                  have nc_13 := lv_neT (k := 24) (a := 24) c_13 (by decide)
                                  have nc_14 := lv_neT (k := 25) (a := 25) c_14 (by decide)
                                  have nc_15 := lv_neT (k := 26) (a := 26) c_15 (by decide)
                                  have nc_16 := lv_neT (k := 29) (a := 29) c_16 (by decide)
                                  have nc_17 := lv_neT (k := 11) (a := 11) c_17 (by decide)
                                  have nc_18 := lv_neT (k := 12) (a := 12) c_18 (by decide)
                                  have nc_19 := lv_neT (k := 14) (a := 14) c_19 (by decide)
                                  have nc_20 := lv_neT (k := 17) (a := 17) c_20 (by decide)
                                  have nc_21 := lv_neT (k := 23) (a := 23) c_21 (by decide)
                                  have nc_22 := lv_neT (k := 27) (a := 27) c_22 (by decide)
                                  have nc_23 := lv_neT (k := 28) (a := 28) c_23 (by decide)
                                  refine lv_tableOut (tgt := 114) hx hb dX1_sizeWithoutFlags_1 (by omega) (by decide) ?_
                                  exact hdef
theorem ctX1_sizeWithoutFlags (l : Launch) (D : va_G) (cI : ClassId) (x0 : Int32) (z : Int32) (hz : fX1_sizeWithoutFlags x0 = z) : CtI l yX1_sizeWithoutFlags wsX1_sizeWithoutFlags rmX1_sizeWithoutFlags D vwCl [(cI, .int)] [.int x0] ([] : va_W) z ([] : va_W) :=
  ctI_of (cc := cX1_sizeWithoutFlags) (maxL := 1) (ret := (some .int)) (by decide) rfl (Nat.le_of_ble_eq_true rfl) (fun p e s m below meth c A ls C hl hP hD hS => wkX1_sizeWithoutFlags C z _ s.heap [] ls hz hP hD hS hl)
abbrev rmX1_isDead : Room := { frames := 0, cells := 0, slots := 0, locals := 0 }
set_option maxRecDepth 100000 in
set_option maxHeartbeats 4000000 in
theorem wkX1_isDead {p : Program} {l : Launch} {e : Env} {s : State} {m : MethodId} {args : Array Value} {below : List Frame} {meth : Method} {c : Code} {D : va_G} {cI : ClassId} {A : Nat → Prop} (C : cxt p s m args meth c cX1_isDead (some .boolean) 1 RX1 wsX1_isDead D vwCl [(cI, .int)] A) : ∀ (z : Int32) (x0 : Int32) (H : Heap) (locs : List Loc) (ls : Array Slot), fX1_isDead x0 = z → va_P D vwCl ([] : va_W) H → va_D A ([] : va_W) → va_S A s.heap H locs → lv_has ls 1 [(0, .int x0)] → W p l e rmX1_isDead s m args below meth c H locs 0 0 (MQ below (oI D vwCl [(cI, .int)] A z ([] : va_W)) args s 0 0 A) (F0 m 0 ls []) := by
  have C0 := C
  obtain ⟨hx, hb, hr, hml, hown, hts, hlocks, hK, hA⟩ := C
  intro z x0 H locs ls hf hP hD hS hl
  unfold fX1_isDead at hf
  refine lv_iload_n hx hb dX1_isDead_0 rfl (lv_at hl 0 rfl) ?_
  refine lv_ldc hx hb hown (hts (.constant RX1 13 1048576) (by decide +kernel)) dX1_isDead_1 ?_
  refine lv_iand hx hb dX1_isDead_3 ?_
  refine lv_if_eq (tgt := 11) hx hb dX1_isDead_4 (by decide) (fun c_1 => ?_) (fun c_1 => ?_)
  · replace hf := pI_t c_1 hf
    refine lv_iconst (v := 0) hx hb dX1_isDead_11 (by decide) ?_
    have hz := hf
    subst hz
    exact gRetZ hx hb hr hlocks hK hP hD hS (by decide) rfl rfl dX1_isDead_12
  · replace hf := pI_f c_1 hf
    refine lv_iconst (v := 1) hx hb dX1_isDead_7 (by decide) ?_
    refine lv_goto (tgt := 12) hx hb dX1_isDead_8 (by decide) ?_
    have hz := hf
    subst hz
    exact gRetZ hx hb hr hlocks hK hP hD hS (by decide) rfl rfl dX1_isDead_12
theorem ctX1_isDead (l : Launch) (D : va_G) (cI : ClassId) (x0 : Int32) (z : Int32) (hz : fX1_isDead x0 = z) : CtI l yX1_isDead wsX1_isDead rmX1_isDead D vwCl [(cI, .int)] [.int x0] ([] : va_W) z ([] : va_W) :=
  ctI_of (cc := cX1_isDead) (maxL := 1) (ret := (some .boolean)) (by decide) rfl (Nat.le_of_ble_eq_true rfl) (fun p e s m below meth c A ls C hl hP hD hS => wkX1_isDead C z _ s.heap [] ls hz hP hD hS hl)
abbrev rmX1_onlyCompares : Room := { frames := 0, cells := 0, slots := 0, locals := 0 }
set_option maxRecDepth 100000 in
set_option maxHeartbeats 4000000 in
theorem wkX1_onlyCompares {p : Program} {l : Launch} {e : Env} {s : State} {m : MethodId} {args : Array Value} {below : List Frame} {meth : Method} {c : Code} {D : va_G} {cI : ClassId} {A : Nat → Prop} (C : cxt p s m args meth c cX1_onlyCompares (some .boolean) 1 RX1 wsX1_onlyCompares D vwCl [(cI, .int)] A) : ∀ (z : Int32) (x0 : Int32) (H : Heap) (locs : List Loc) (ls : Array Slot), fX1_onlyCompares x0 = z → va_P D vwCl ([] : va_W) H → va_D A ([] : va_W) → va_S A s.heap H locs → lv_has ls 1 [(0, .int x0)] → W p l e rmX1_onlyCompares s m args below meth c H locs 0 0 (MQ below (oI D vwCl [(cI, .int)] A z ([] : va_W)) args s 0 0 A) (F0 m 0 ls []) := by
  have C0 := C
  obtain ⟨hx, hb, hr, hml, hown, hts, hlocks, hK, hA⟩ := C
  intro z x0 H locs ls hf hP hD hS hl
  unfold fX1_onlyCompares at hf
  refine lv_iload_n hx hb dX1_onlyCompares_0 rfl (lv_at hl 0 rfl) ?_
  refine lv_bipush (v := 10) hx hb dX1_onlyCompares_1 (by decide) ?_
  refine lv_icmp_eq (tgt := 12) hx hb dX1_onlyCompares_3 (by decide) (fun c_1 => ?_) (fun c_1 => ?_)
  · replace hf := pI_t c_1 hf
    refine lv_iconst (v := 1) hx hb dX1_onlyCompares_12 (by decide) ?_
    refine lv_goto (tgt := 17) hx hb dX1_onlyCompares_13 (by decide) ?_
    have hz := hf
    subst hz
    exact gRetZ hx hb hr hlocks hK hP hD hS (by decide) rfl rfl dX1_onlyCompares_17
  · replace hf := pI_f c_1 hf
    refine lv_iload_n hx hb dX1_onlyCompares_6 rfl (lv_at hl 0 rfl) ?_
    refine lv_bipush (v := 19) hx hb dX1_onlyCompares_7 (by decide) ?_
    refine lv_icmp_ne (tgt := 16) hx hb dX1_onlyCompares_9 (by decide) (fun c_2 => ?_) (fun c_2 => ?_)
    · replace hf := pI_f c_2 hf
      refine lv_iconst (v := 0) hx hb dX1_onlyCompares_16 (by decide) ?_
      have hz := hf
      subst hz
      exact gRetZ hx hb hr hlocks hK hP hD hS (by decide) rfl rfl dX1_onlyCompares_17
    · replace hf := pI_t c_2 hf
      refine lv_iconst (v := 1) hx hb dX1_onlyCompares_12 (by decide) ?_
      refine lv_goto (tgt := 17) hx hb dX1_onlyCompares_13 (by decide) ?_
      have hz := hf
      subst hz
      exact gRetZ hx hb hr hlocks hK hP hD hS (by decide) rfl rfl dX1_onlyCompares_17
theorem ctX1_onlyCompares (l : Launch) (D : va_G) (cI : ClassId) (x0 : Int32) (z : Int32) (hz : fX1_onlyCompares x0 = z) : CtI l yX1_onlyCompares wsX1_onlyCompares rmX1_onlyCompares D vwCl [(cI, .int)] [.int x0] ([] : va_W) z ([] : va_W) :=
  ctI_of (cc := cX1_onlyCompares) (maxL := 1) (ret := (some .boolean)) (by decide) rfl (Nat.le_of_ble_eq_true rfl) (fun p e s m below meth c A ls C hl hP hD hS => wkX1_onlyCompares C z _ s.heap [] ls hz hP hD hS hl)
abbrev rmX1_size : Room := { frames := 1, cells := 0, slots := 0, locals := 20 }
set_option maxRecDepth 100000 in
set_option maxHeartbeats 4000000 in
theorem wkX1_size {p : Program} {l : Launch} {e : Env} {s : State} {m : MethodId} {args : Array Value} {below : List Frame} {meth : Method} {c : Code} {D : va_G} {cI : ClassId} {A : Nat → Prop} (C : cxt p s m args meth c cX1_size (some .int) 2 RX1 wsX1_size D vwCl [(cI, .int)] A) : ∀ (z : Int32) (x0 : Int32) (H : Heap) (locs : List Loc) (ls : Array Slot), fX1_size x0 = z → va_P D vwCl ([] : va_W) H → va_D A ([] : va_W) → va_S A s.heap H locs → lv_has ls 2 [(0, .int x0)] → W p l e rmX1_size s m args below meth c H locs 0 0 (MQ below (oI D vwCl [(cI, .int)] A z ([] : va_W)) args s 0 0 A) (F0 m 0 ls []) := by
  have C0 := C
  obtain ⟨hx, hb, hr, hml, hown, hts, hlocks, hK, hA⟩ := C
  intro z x0 H locs ls hf hP hD hS hl
  unfold fX1_size at hf
  refine lv_iload_n hx hb dX1_size_0 rfl (lv_at hl 0 rfl) ?_
  obtain ⟨z_1, hz_1, hf⟩ := pLet_out hf
  refine gI0 (va_runS (As := [.int x0]) (rest := []) ⟨hx, hb, hml, hown, hts⟩ (ctX1_kind l D cI x0 z_1 hz_1.symm H.size) (va_cwS 1 hts gX1_size_X1_kind rfl rfl rfl (by decide +kernel) ⟨Nat.le_of_ble_eq_true rfl, Nat.le_of_ble_eq_true rfl⟩) (gPreS hP hK hD [] (by decide) rfl) rfl rfl hl.1 rfl (lv_room (Nat.le_of_ble_eq_true rfl)) dX1_size_1 ⟨Nat.le_of_ble_eq_true rfl, Nat.le_of_ble_eq_true rfl⟩) hP hD hS hA (fun H locs hP hS => ?_)
  refine lv_istore_n (lv' := [(1, .int z_1), (0, .int x0)]) hx hb dX1_size_4 rfl hl (by decide) rfl (fun ls hl => ?_)
  refine lv_iload_n hx hb dX1_size_5 rfl (lv_at hl 0 rfl) ?_
  obtain ⟨z_2, hz_2, hf⟩ := pLet_out hf
  refine gI0 (va_runS (As := [.int z_1]) (rest := []) ⟨hx, hb, hml, hown, hts⟩ (ctX1_makesFlags l D cI z_1 z_2 hz_2.symm H.size) (va_cwS 1 hts gX1_size_X1_makesFlags rfl rfl rfl (by decide +kernel) ⟨Nat.le_of_ble_eq_true rfl, Nat.le_of_ble_eq_true rfl⟩) (gPreS hP hK hD [] (by decide) rfl) rfl rfl hl.1 rfl (lv_room (Nat.le_of_ble_eq_true rfl)) dX1_size_6 ⟨Nat.le_of_ble_eq_true rfl, Nat.le_of_ble_eq_true rfl⟩) hP hD hS hA (fun H locs hP hS => ?_)
  refine lv_if_ne (tgt := 17) hx hb dX1_size_9 (by decide) (fun c_3 => ?_) (fun c_3 => ?_)
  · replace hf := pI_f c_3 hf
    refine lv_iload_n hx hb dX1_size_17 rfl (lv_at hl 1 rfl) ?_
    obtain ⟨z_4, hz_4, hf⟩ := pLet_out hf
    refine gI0 (va_runS (As := [.int x0]) (rest := []) ⟨hx, hb, hml, hown, hts⟩ (ctX1_isDead l D cI x0 z_4 hz_4.symm H.size) (va_cwS 1 hts gX1_size_X1_isDead rfl rfl rfl (by decide +kernel) ⟨Nat.le_of_ble_eq_true rfl, Nat.le_of_ble_eq_true rfl⟩) (gPreS hP hK hD [] (by decide) rfl) rfl rfl hl.1 rfl (lv_room (Nat.le_of_ble_eq_true rfl)) dX1_size_18 ⟨Nat.le_of_ble_eq_true rfl, Nat.le_of_ble_eq_true rfl⟩) hP hD hS hA (fun H locs hP hS => ?_)
    refine lv_if_eq (tgt := 40) hx hb dX1_size_21 (by decide) (fun c_5 => ?_) (fun c_5 => ?_)
    · replace hf := pI_t c_5 hf
      refine lv_iload_n hx hb dX1_size_40 rfl (lv_at hl 0 rfl) ?_
      obtain ⟨z_6, hz_6, hf⟩ := pLet_out hf
      refine gI0 (va_runS (As := [.int z_1]) (rest := []) ⟨hx, hb, hml, hown, hts⟩ (ctX1_sizeWithoutFlags l D cI z_1 z_6 hz_6.symm H.size) (va_cwS 1 hts gX1_size_X1_sizeWithoutFlags rfl rfl rfl (by decide +kernel) ⟨Nat.le_of_ble_eq_true rfl, Nat.le_of_ble_eq_true rfl⟩) (gPreS hP hK hD [] (by decide) rfl) rfl rfl hl.1 rfl (lv_room (Nat.le_of_ble_eq_true rfl)) dX1_size_41 ⟨Nat.le_of_ble_eq_true rfl, Nat.le_of_ble_eq_true rfl⟩) hP hD hS hA (fun H locs hP hS => ?_)
      refine lv_iload_n hx hb dX1_size_44 rfl (lv_at hl 0 rfl) ?_
      refine lv_bipush (v := 16) hx hb dX1_size_45 (by decide) ?_
      refine lv_icmp_ne (tgt := 54) hx hb dX1_size_47 (by decide) (fun c_7 => ?_) (fun c_7 => ?_)
      · replace hf := pI_f c_7 hf
        refine lv_iconst (v := 3) hx hb dX1_size_54 (by decide) ?_
        refine lv_iadd hx hb dX1_size_55 ?_
        have hz := hf
        subst hz
        exact gRetI hx hb hr hlocks hK hP hD hS rfl rfl dX1_size_56
      · replace hf := pI_t c_7 hf
        refine lv_iconst (v := 4) hx hb dX1_size_50 (by decide) ?_
        refine lv_goto (tgt := 55) hx hb dX1_size_51 (by decide) ?_
        refine lv_iadd hx hb dX1_size_55 ?_
        have hz := hf
        subst hz
        exact gRetI hx hb hr hlocks hK hP hD hS rfl rfl dX1_size_56
    · replace hf := pI_f c_5 hf
      refine lv_iload_n hx hb dX1_size_24 rfl (lv_at hl 0 rfl) ?_
      obtain ⟨z_8, hz_8, hf⟩ := pLet_out hf
      refine gI0 (va_runS (As := [.int z_1]) (rest := []) ⟨hx, hb, hml, hown, hts⟩ (ctX1_onlyCompares l D cI z_1 z_8 hz_8.symm H.size) (va_cwS 1 hts gX1_size_X1_onlyCompares rfl rfl rfl (by decide +kernel) ⟨Nat.le_of_ble_eq_true rfl, Nat.le_of_ble_eq_true rfl⟩) (gPreS hP hK hD [] (by decide) rfl) rfl rfl hl.1 rfl (lv_room (Nat.le_of_ble_eq_true rfl)) dX1_size_25 ⟨Nat.le_of_ble_eq_true rfl, Nat.le_of_ble_eq_true rfl⟩) hP hD hS hA (fun H locs hP hS => ?_)
      refine lv_if_eq (tgt := 35) hx hb dX1_size_28 (by decide) (fun c_9 => ?_) (fun c_9 => ?_)
      · replace hf := pI_t c_9 hf
        refine lv_iload_n hx hb dX1_size_35 rfl (lv_at hl 0 rfl) ?_
        obtain ⟨z_10, hz_10, hf⟩ := pLet_out hf
        refine gI0 (va_runS (As := [.int z_1]) (rest := []) ⟨hx, hb, hml, hown, hts⟩ (ctX1_sizeWithoutFlags l D cI z_1 z_10 hz_10.symm H.size) (va_cwS 1 hts gX1_size_X1_sizeWithoutFlags rfl rfl rfl (by decide +kernel) ⟨Nat.le_of_ble_eq_true rfl, Nat.le_of_ble_eq_true rfl⟩) (gPreS hP hK hD [] (by decide) rfl) rfl rfl hl.1 rfl (lv_room (Nat.le_of_ble_eq_true rfl)) dX1_size_36 ⟨Nat.le_of_ble_eq_true rfl, Nat.le_of_ble_eq_true rfl⟩) hP hD hS hA (fun H locs hP hS => ?_)
        have hz := hf
        subst hz
        exact gRetI hx hb hr hlocks hK hP hD hS rfl rfl dX1_size_39
      · replace hf := pI_f c_9 hf
        refine lv_iconst (v := 0) hx hb dX1_size_31 (by decide) ?_
        refine lv_goto (tgt := 39) hx hb dX1_size_32 (by decide) ?_
        have hz := hf
        subst hz
        exact gRetI hx hb hr hlocks hK hP hD hS rfl rfl dX1_size_39
  · replace hf := pI_t c_3 hf
    refine lv_iload_n hx hb dX1_size_12 rfl (lv_at hl 0 rfl) ?_
    obtain ⟨z_11, hz_11, hf⟩ := pLet_out hf
    refine gI0 (va_runS (As := [.int z_1]) (rest := []) ⟨hx, hb, hml, hown, hts⟩ (ctX1_sizeWithoutFlags l D cI z_1 z_11 hz_11.symm H.size) (va_cwS 1 hts gX1_size_X1_sizeWithoutFlags rfl rfl rfl (by decide +kernel) ⟨Nat.le_of_ble_eq_true rfl, Nat.le_of_ble_eq_true rfl⟩) (gPreS hP hK hD [] (by decide) rfl) rfl rfl hl.1 rfl (lv_room (Nat.le_of_ble_eq_true rfl)) dX1_size_13 ⟨Nat.le_of_ble_eq_true rfl, Nat.le_of_ble_eq_true rfl⟩) hP hD hS hA (fun H locs hP hS => ?_)
    have hz := hf
    subst hz
    exact gRetI hx hb hr hlocks hK hP hD hS rfl rfl dX1_size_16
theorem ctX1_size (l : Launch) (D : va_G) (cI : ClassId) (x0 : Int32) (z : Int32) (hz : fX1_size x0 = z) : CtI l yX1_size wsX1_size rmX1_size D vwCl [(cI, .int)] [.int x0] ([] : va_W) z ([] : va_W) :=
  ctI_of (cc := cX1_size) (maxL := 2) (ret := (some .int)) (by decide) rfl (Nat.le_of_ble_eq_true rfl) (fun p e s m below meth c A ls C hl hP hD hS => wkX1_size C z _ s.heap [] ls hz hP hD hS hl)
abbrev rmX1_n : Room := { frames := 0, cells := 0, slots := 0, locals := 0 }
set_option maxRecDepth 100000 in
set_option maxHeartbeats 4000000 in
theorem wkX1_n {p : Program} {l : Launch} {e : Env} {s : State} {m : MethodId} {args : Array Value} {below : List Frame} {meth : Method} {c : Code} {D : va_G} {cI : ClassId} {A : Nat → Prop} (C : cxt p s m args meth c cX1_n (some .int) 1 RX1 wsX1_n D vwCl [(cI, .int)] A) : ∀ (z : Int32) (x0 : Int32) (H : Heap) (locs : List Loc) (ls : Array Slot), fX1_n x0 = z → va_P D vwCl ([] : va_W) H → va_D A ([] : va_W) → va_S A s.heap H locs → lv_has ls 1 [(0, .int x0)] → W p l e rmX1_n s m args below meth c H locs 0 0 (MQ below (oI D vwCl [(cI, .int)] A z ([] : va_W)) args s 0 0 A) (F0 m 0 ls []) := by
  have C0 := C
  obtain ⟨hx, hb, hr, hml, hown, hts, hlocks, hK, hA⟩ := C
  intro z x0 H locs ls hf hP hD hS hl
  unfold fX1_n at hf
  refine lv_iload_n hx hb dX1_n_0 rfl (lv_at hl 0 rfl) ?_
  refine lv_sipush (v := 255) hx hb dX1_n_1 (by decide) ?_
  refine lv_iand hx hb dX1_n_4 ?_
  have hz := hf
  subst hz
  exact gRetI hx hb hr hlocks hK hP hD hS rfl rfl dX1_n_5
theorem ctX1_n (l : Launch) (D : va_G) (cI : ClassId) (x0 : Int32) (z : Int32) (hz : fX1_n x0 = z) : CtI l yX1_n wsX1_n rmX1_n D vwCl [(cI, .int)] [.int x0] ([] : va_W) z ([] : va_W) :=
  ctI_of (cc := cX1_n) (maxL := 1) (ret := (some .int)) (by decide) rfl (Nat.le_of_ble_eq_true rfl) (fun p e s m below meth c A ls C hl hP hD hS => wkX1_n C z _ s.heap [] ls hz hP hD hS hl)
abbrev rmX1_d : Room := { frames := 0, cells := 0, slots := 0, locals := 0 }
set_option maxRecDepth 100000 in
set_option maxHeartbeats 4000000 in
theorem wkX1_d {p : Program} {l : Launch} {e : Env} {s : State} {m : MethodId} {args : Array Value} {below : List Frame} {meth : Method} {c : Code} {D : va_G} {cI : ClassId} {A : Nat → Prop} (C : cxt p s m args meth c cX1_d (some .int) 1 RX1 wsX1_d D vwCl [(cI, .int)] A) : ∀ (z : Int32) (x0 : Int32) (H : Heap) (locs : List Loc) (ls : Array Slot), fX1_d x0 = z → va_P D vwCl ([] : va_W) H → va_D A ([] : va_W) → va_S A s.heap H locs → lv_has ls 1 [(0, .int x0)] → W p l e rmX1_d s m args below meth c H locs 0 0 (MQ below (oI D vwCl [(cI, .int)] A z ([] : va_W)) args s 0 0 A) (F0 m 0 ls []) := by
  have C0 := C
  obtain ⟨hx, hb, hr, hml, hown, hts, hlocks, hK, hA⟩ := C
  intro z x0 H locs ls hf hP hD hS hl
  unfold fX1_d at hf
  refine lv_iload_n hx hb dX1_d_0 rfl (lv_at hl 0 rfl) ?_
  refine lv_bipush (v := 10) hx hb dX1_d_1 (by decide) ?_
  refine lv_ishr hx hb dX1_d_3 ?_
  refine lv_iconst (v := 3) hx hb dX1_d_4 (by decide) ?_
  refine lv_iand hx hb dX1_d_5 ?_
  have hz := hf
  subst hz
  exact gRetI hx hb hr hlocks hK hP hD hS rfl rfl dX1_d_6
theorem ctX1_d (l : Launch) (D : va_G) (cI : ClassId) (x0 : Int32) (z : Int32) (hz : fX1_d x0 = z) : CtI l yX1_d wsX1_d rmX1_d D vwCl [(cI, .int)] [.int x0] ([] : va_W) z ([] : va_W) :=
  ctI_of (cc := cX1_d) (maxL := 1) (ret := (some .int)) (by decide) rfl (Nat.le_of_ble_eq_true rfl) (fun p e s m below meth c A ls C hl hP hD hS => wkX1_d C z _ s.heap [] ls hz hP hD hS hl)
abbrev rmX1_s : Room := { frames := 0, cells := 0, slots := 0, locals := 0 }
set_option maxRecDepth 100000 in
set_option maxHeartbeats 4000000 in
theorem wkX1_s {p : Program} {l : Launch} {e : Env} {s : State} {m : MethodId} {args : Array Value} {below : List Frame} {meth : Method} {c : Code} {D : va_G} {cI : ClassId} {A : Nat → Prop} (C : cxt p s m args meth c cX1_s (some .int) 1 RX1 wsX1_s D vwCl [(cI, .int)] A) : ∀ (z : Int32) (x0 : Int32) (H : Heap) (locs : List Loc) (ls : Array Slot), fX1_s x0 = z → va_P D vwCl ([] : va_W) H → va_D A ([] : va_W) → va_S A s.heap H locs → lv_has ls 1 [(0, .int x0)] → W p l e rmX1_s s m args below meth c H locs 0 0 (MQ below (oI D vwCl [(cI, .int)] A z ([] : va_W)) args s 0 0 A) (F0 m 0 ls []) := by
  have C0 := C
  obtain ⟨hx, hb, hr, hml, hown, hts, hlocks, hK, hA⟩ := C
  intro z x0 H locs ls hf hP hD hS hl
  unfold fX1_s at hf
  refine lv_iload_n hx hb dX1_s_0 rfl (lv_at hl 0 rfl) ?_
  refine lv_bipush (v := 8) hx hb dX1_s_1 (by decide) ?_
  refine lv_ishr hx hb dX1_s_3 ?_
  refine lv_iconst (v := 3) hx hb dX1_s_4 (by decide) ?_
  refine lv_iand hx hb dX1_s_5 ?_
  have hz := hf
  subst hz
  exact gRetI hx hb hr hlocks hK hP hD hS rfl rfl dX1_s_6
theorem ctX1_s (l : Launch) (D : va_G) (cI : ClassId) (x0 : Int32) (z : Int32) (hz : fX1_s x0 = z) : CtI l yX1_s wsX1_s rmX1_s D vwCl [(cI, .int)] [.int x0] ([] : va_W) z ([] : va_W) :=
  ctI_of (cc := cX1_s) (maxL := 1) (ret := (some .int)) (by decide) rfl (Nat.le_of_ble_eq_true rfl) (fun p e s m below meth c A ls C hl hP hD hS => wkX1_s C z _ s.heap [] ls hz hP hD hS hl)
abbrev rmX1_w : Room := { frames := 0, cells := 0, slots := 0, locals := 0 }
set_option maxRecDepth 100000 in
set_option maxHeartbeats 4000000 in
theorem wkX1_w {p : Program} {l : Launch} {e : Env} {s : State} {m : MethodId} {args : Array Value} {below : List Frame} {meth : Method} {c : Code} {D : va_G} {cI : ClassId} {A : Nat → Prop} (C : cxt p s m args meth c cX1_w (some .int) 1 RX1 wsX1_w D vwCl [(cI, .int)] A) : ∀ (z : Int32) (x0 : Int32) (H : Heap) (locs : List Loc) (ls : Array Slot), fX1_w x0 = z → va_P D vwCl ([] : va_W) H → va_D A ([] : va_W) → va_S A s.heap H locs → lv_has ls 1 [(0, .int x0)] → W p l e rmX1_w s m args below meth c H locs 0 0 (MQ below (oI D vwCl [(cI, .int)] A z ([] : va_W)) args s 0 0 A) (F0 m 0 ls []) := by
  have C0 := C
  obtain ⟨hx, hb, hr, hml, hown, hts, hlocks, hK, hA⟩ := C
  intro z x0 H locs ls hf hP hD hS hl
  unfold fX1_w at hf
  refine lv_iload_n hx hb dX1_w_0 rfl (lv_at hl 0 rfl) ?_
  refine lv_bipush (v := 8) hx hb dX1_w_1 (by decide) ?_
  refine lv_ishr hx hb dX1_w_3 ?_
  refine lv_bipush (v := 15) hx hb dX1_w_4 (by decide) ?_
  refine lv_iand hx hb dX1_w_6 ?_
  have hz := hf
  subst hz
  exact gRetI hx hb hr hlocks hK hP hD hS rfl rfl dX1_w_7
theorem ctX1_w (l : Launch) (D : va_G) (cI : ClassId) (x0 : Int32) (z : Int32) (hz : fX1_w x0 = z) : CtI l yX1_w wsX1_w rmX1_w D vwCl [(cI, .int)] [.int x0] ([] : va_W) z ([] : va_W) :=
  ctI_of (cc := cX1_w) (maxL := 1) (ret := (some .int)) (by decide) rfl (Nat.le_of_ble_eq_true rfl) (fun p e s m below meth c A ls C hl hP hD hS => wkX1_w C z _ s.heap [] ls hz hP hD hS hl)

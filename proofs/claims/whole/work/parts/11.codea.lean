abbrev rmX1_kindOf : Room := { frames := 0, cells := 0, slots := 0, locals := 0 }
set_option maxRecDepth 100000 in
set_option maxHeartbeats 4000000 in
theorem wkX1_kindOf_b196 {p : Program} {l : Launch} {e : Env} {s : State} {m : MethodId} {args : Array Value} {below : List Frame} {meth : Method} {c : Code} {D : va_G} {cI : ClassId} {A : Nat → Prop} (C : cxt p s m args meth c cX1_kindOf (some .int) 4 RX1 wsX1_kindOf D vwCl [(cI, .int)] A) : ∀ (z : Int32) (x1 : Int32) (H : Heap) (locs : List Loc) (ls : Array Slot), fX1_kindOf_b196 x1 = z → va_P D vwCl ([] : va_W) H → va_D A ([] : va_W) → va_S A s.heap H locs → lv_has ls 4 [(1, .int x1)] → W p l e rmX1_kindOf s m args below meth c H locs 0 0 (MQ below (oI D vwCl [(cI, .int)] A z ([] : va_W)) args s 0 0 A) (F0 m 196 ls []) := by
  have C0 := C
  obtain ⟨hx, hb, hr, hml, hown, hts, hlocks, hK, hA⟩ := C
  intro z x1 H locs ls hf hP hD hS hl
  unfold fX1_kindOf_b196 at hf
  refine lv_bipush (v := 6) hx hb dX1_kindOf_196 (by decide) ?_
  refine lv_iload_n hx hb dX1_kindOf_198 rfl (lv_at hl 0 rfl) ?_
  refine lv_iadd hx hb dX1_kindOf_199 ?_
  refine lv_iconst (v := 1) hx hb dX1_kindOf_200 (by decide) ?_
  refine lv_isub hx hb dX1_kindOf_201 ?_
  have hz := hf
  subst hz
  exact gRetI hx hb hr hlocks hK hP hD hS rfl rfl dX1_kindOf_202
set_option maxRecDepth 100000 in
set_option maxHeartbeats 4000000 in
theorem wkX1_kindOf {p : Program} {l : Launch} {e : Env} {s : State} {m : MethodId} {args : Array Value} {below : List Frame} {meth : Method} {c : Code} {D : va_G} {cI : ClassId} {A : Nat → Prop} (C : cxt p s m args meth c cX1_kindOf (some .int) 4 RX1 wsX1_kindOf D vwCl [(cI, .int)] A) : ∀ (z : Int32) (x0 : Int32) (H : Heap) (locs : List Loc) (ls : Array Slot), fX1_kindOf x0 = z → va_P D vwCl ([] : va_W) H → va_D A ([] : va_W) → va_S A s.heap H locs → lv_has ls 4 [(0, .int x0)] → W p l e rmX1_kindOf s m args below meth c H locs 0 0 (MQ below (oI D vwCl [(cI, .int)] A z ([] : va_W)) args s 0 0 A) (F0 m 0 ls []) := by
  have C0 := C
  obtain ⟨hx, hb, hr, hml, hown, hts, hlocks, hK, hA⟩ := C
  intro z x0 H locs ls hf hP hD hS hl
  unfold fX1_kindOf at hf
  refine lv_iload_n hx hb dX1_kindOf_0 rfl (lv_at hl 0 rfl) ?_
  refine lv_iconst (v := 4) hx hb dX1_kindOf_1 (by decide) ?_
  refine lv_ishr hx hb dX1_kindOf_2 ?_
  obtain ⟨x_1, ex_1, hf⟩ := pLet_out hf
  refine gTop ex_1 ?_
  refine lv_istore_n (lv' := [(1, .int x_1), (0, .int x0)]) hx hb dX1_kindOf_3 rfl hl (by decide) rfl (fun ls hl => ?_)
  refine lv_iload_n hx hb dX1_kindOf_4 rfl (lv_at hl 1 rfl) ?_
  refine lv_bipush (v := 15) hx hb dX1_kindOf_5 (by decide) ?_
  refine lv_iand hx hb dX1_kindOf_7 ?_
  obtain ⟨x_2, ex_2, hf⟩ := pLet_out hf
  refine gTop ex_2 ?_
  refine lv_istore_n (lv' := [(2, .int x_2), (1, .int x_1), (0, .int x0)]) hx hb dX1_kindOf_8 rfl hl (by decide) rfl (fun ls hl => ?_)
  refine lv_iload_n hx hb dX1_kindOf_9 rfl (lv_at hl 2 rfl) ?_
  refine lv_iconst (v := 3) hx hb dX1_kindOf_10 (by decide) ?_
  refine lv_iand hx hb dX1_kindOf_11 ?_
  obtain ⟨x_3, ex_3, hf⟩ := pLet_out hf
  refine gTop ex_3 ?_
  refine lv_istore_n (lv' := [(3, .int x_3), (2, .int x_2), (1, .int x_1), (0, .int x0)]) hx hb dX1_kindOf_12 rfl hl (by decide) rfl (fun ls hl => ?_)
  refine lv_iload_n hx hb dX1_kindOf_13 rfl (lv_at hl 2 rfl) ?_
  by_cases c_5 : x_1 = 0
  · replace hf := pI_t c_5 hf
    refine lv_tableIn (tgt := 92) (off := 78) hx hb dX1_kindOf_14 (by rw [c_5]; decide) (by rw [c_5]; decide) (by rw [c_5]; rfl) (by decide) ?_
    refine lv_iload_n hx hb dX1_kindOf_92 rfl (lv_at hl 1 rfl) ?_
    refine lv_iconst (v := 4) hx hb dX1_kindOf_93 (by decide) ?_
    refine lv_icmp_gt (tgt := 103) hx hb dX1_kindOf_94 (by decide) (fun c_4 => ?_) (fun c_4 => ?_)
    · replace hf := pI_t c_4 hf
      refine lv_iconst (v := 0) hx hb dX1_kindOf_103 (by decide) ?_
      have hz := hf
      subst hz
      exact gRetI hx hb hr hlocks hK hP hD hS rfl rfl dX1_kindOf_104
    · replace hf := pI_f c_4 hf
      refine lv_iconst (v := 1) hx hb dX1_kindOf_97 (by decide) ?_
      refine lv_iload_n hx hb dX1_kindOf_98 rfl (lv_at hl 1 rfl) ?_
      refine lv_iadd hx hb dX1_kindOf_99 ?_
      refine lv_goto (tgt := 104) hx hb dX1_kindOf_100 (by decide) ?_
      have hz := hf
      subst hz
      exact gRetI hx hb hr hlocks hK hP hD hS rfl rfl dX1_kindOf_104
  · replace hf := pI_f c_5 hf
    by_cases c_6 : x_1 = 8
    · replace hf := pI_t c_6 hf
      refine lv_tableIn (tgt := 105) (off := 91) hx hb dX1_kindOf_14 (by rw [c_6]; decide) (by rw [c_6]; decide) (by rw [c_6]; rfl) (by decide) ?_
      refine lv_bipush (v := 13) hx hb dX1_kindOf_105 (by decide) ?_
      refine lv_iload_n hx hb dX1_kindOf_107 rfl (lv_at hl 0 rfl) ?_
      refine lv_iadd hx hb dX1_kindOf_108 ?_
      have hz := hf
      subst hz
      exact gRetI hx hb hr hlocks hK hP hD hS rfl rfl dX1_kindOf_109
    · replace hf := pI_f c_6 hf
      by_cases c_7 : x_1 = 9
      · replace hf := pI_t c_7 hf
        refine lv_tableIn (tgt := 110) (off := 96) hx hb dX1_kindOf_14 (by rw [c_7]; decide) (by rw [c_7]; decide) (by rw [c_7]; rfl) (by decide) ?_
        refine lv_bipush (v := 17) hx hb dX1_kindOf_110 (by decide) ?_
        refine lv_iload_n hx hb dX1_kindOf_112 rfl (lv_at hl 0 rfl) ?_
        refine lv_iadd hx hb dX1_kindOf_113 ?_
        have hz := hf
        subst hz
        exact gRetI hx hb hr hlocks hK hP hD hS rfl rfl dX1_kindOf_114
      · replace hf := pI_f c_7 hf
        by_cases c_8 : x_1 = 10
        · replace hf := pI_t c_8 hf
          refine lv_tableIn (tgt := 115) (off := 101) hx hb dX1_kindOf_14 (by rw [c_8]; decide) (by rw [c_8]; decide) (by rw [c_8]; rfl) (by decide) ?_
          refine lv_bipush (v := 21) hx hb dX1_kindOf_115 (by decide) ?_
          have hz := hf
          subst hz
          exact gRetI hx hb hr hlocks hK hP hD hS rfl rfl dX1_kindOf_117
        · replace hf := pI_f c_8 hf
          by_cases c_9 : x_1 = 11
          · replace hf := pI_t c_9 hf
            refine lv_tableIn (tgt := 118) (off := 104) hx hb dX1_kindOf_14 (by rw [c_9]; decide) (by rw [c_9]; decide) (by rw [c_9]; rfl) (by decide) ?_
            refine lv_bipush (v := 22) hx hb dX1_kindOf_118 (by decide) ?_
            have hz := hf
            subst hz
            exact gRetI hx hb hr hlocks hK hP hD hS rfl rfl dX1_kindOf_120
          · replace hf := pI_f c_9 hf
            by_cases c_12 : x_1 = 12
            · replace hf := pI_t c_12 hf
              refine lv_tableIn (tgt := 121) (off := 107) hx hb dX1_kindOf_14 (by rw [c_12]; decide) (by rw [c_12]; decide) (by rw [c_12]; rfl) (by decide) ?_
              refine lv_iload_n hx hb dX1_kindOf_121 rfl (lv_at hl 1 rfl) ?_
              refine lv_if_ne (tgt := 130) hx hb dX1_kindOf_122 (by decide) (fun c_10 => ?_) (fun c_10 => ?_)
              · replace hf := pI_f c_10 hf
                refine lv_iload_n hx hb dX1_kindOf_130 rfl (lv_at hl 1 rfl) ?_
                refine lv_bipush (v := 6) hx hb dX1_kindOf_131 (by decide) ?_
                refine lv_icmp_gt (tgt := 141) hx hb dX1_kindOf_133 (by decide) (fun c_11 => ?_) (fun c_11 => ?_)
                · replace hf := pI_t c_11 hf
                  refine lv_iconst (v := 0) hx hb dX1_kindOf_141 (by decide) ?_
                  have hz := hf
                  subst hz
                  exact gRetI hx hb hr hlocks hK hP hD hS rfl rfl dX1_kindOf_142
                · replace hf := pI_f c_11 hf
                  refine lv_bipush (v := 24) hx hb dX1_kindOf_136 (by decide) ?_
                  refine lv_goto (tgt := 142) hx hb dX1_kindOf_138 (by decide) ?_
                  have hz := hf
                  subst hz
                  exact gRetI hx hb hr hlocks hK hP hD hS rfl rfl dX1_kindOf_142
              · replace hf := pI_t c_10 hf
                refine lv_bipush (v := 23) hx hb dX1_kindOf_125 (by decide) ?_
                refine lv_goto (tgt := 142) hx hb dX1_kindOf_127 (by decide) ?_
                have hz := hf
                subst hz
                exact gRetI hx hb hr hlocks hK hP hD hS rfl rfl dX1_kindOf_142
            · replace hf := pI_f c_12 hf
              by_cases c_15 : x_1 = 13
              · replace hf := pI_t c_15 hf
                refine lv_tableIn (tgt := 143) (off := 129) hx hb dX1_kindOf_14 (by rw [c_15]; decide) (by rw [c_15]; decide) (by rw [c_15]; rfl) (by decide) ?_
                refine lv_iload_n hx hb dX1_kindOf_143 rfl (lv_at hl 1 rfl) ?_
                refine lv_if_ne (tgt := 152) hx hb dX1_kindOf_144 (by decide) (fun c_13 => ?_) (fun c_13 => ?_)
                · replace hf := pI_f c_13 hf
                  refine lv_iload_n hx hb dX1_kindOf_152 rfl (lv_at hl 1 rfl) ?_
                  refine lv_iconst (v := 1) hx hb dX1_kindOf_153 (by decide) ?_
                  refine lv_icmp_ne (tgt := 162) hx hb dX1_kindOf_154 (by decide) (fun c_14 => ?_) (fun c_14 => ?_)
                  · replace hf := pI_f c_14 hf
                    refine lv_iconst (v := 0) hx hb dX1_kindOf_162 (by decide) ?_
                    have hz := hf
                    subst hz
                    exact gRetI hx hb hr hlocks hK hP hD hS rfl rfl dX1_kindOf_163
                  · replace hf := pI_t c_14 hf
                    refine lv_bipush (v := 26) hx hb dX1_kindOf_157 (by decide) ?_
                    refine lv_goto (tgt := 163) hx hb dX1_kindOf_159 (by decide) ?_
                    have hz := hf
                    subst hz
                    exact gRetI hx hb hr hlocks hK hP hD hS rfl rfl dX1_kindOf_163
                · replace hf := pI_t c_13 hf
                  refine lv_bipush (v := 25) hx hb dX1_kindOf_147 (by decide) ?_
                  refine lv_goto (tgt := 163) hx hb dX1_kindOf_149 (by decide) ?_
                  have hz := hf
                  subst hz
                  exact gRetI hx hb hr hlocks hK hP hD hS rfl rfl dX1_kindOf_163
              · replace hf := pI_f c_15 hf
                by_cases c_18 : x_1 = 14
                · replace hf := pI_t c_18 hf
                  refine lv_tableIn (tgt := 164) (off := 150) hx hb dX1_kindOf_14 (by rw [c_18]; decide) (by rw [c_18]; decide) (by rw [c_18]; rfl) (by decide) ?_
                  refine lv_iload_n hx hb dX1_kindOf_164 rfl (lv_at hl 0 rfl) ?_
                  refine lv_if_ne (tgt := 173) hx hb dX1_kindOf_165 (by decide) (fun c_16 => ?_) (fun c_16 => ?_)
                  · replace hf := pI_f c_16 hf
                    refine lv_iload_n hx hb dX1_kindOf_173 rfl (lv_at hl 0 rfl) ?_
                    refine lv_iconst (v := 1) hx hb dX1_kindOf_174 (by decide) ?_
                    refine lv_icmp_ne (tgt := 183) hx hb dX1_kindOf_175 (by decide) (fun c_17 => ?_) (fun c_17 => ?_)
                    · replace hf := pI_f c_17 hf
                      refine lv_iconst (v := 0) hx hb dX1_kindOf_183 (by decide) ?_
                      have hz := hf
                      subst hz
                      exact gRetI hx hb hr hlocks hK hP hD hS rfl rfl dX1_kindOf_184
                    · replace hf := pI_t c_17 hf
                      refine lv_bipush (v := 28) hx hb dX1_kindOf_178 (by decide) ?_
                      refine lv_goto (tgt := 184) hx hb dX1_kindOf_180 (by decide) ?_
                      have hz := hf
                      subst hz
                      exact gRetI hx hb hr hlocks hK hP hD hS rfl rfl dX1_kindOf_184
                  · replace hf := pI_t c_16 hf
                    refine lv_bipush (v := 27) hx hb dX1_kindOf_168 (by decide) ?_
                    refine lv_goto (tgt := 184) hx hb dX1_kindOf_170 (by decide) ?_
                    have hz := hf
                    subst hz
                    exact gRetI hx hb hr hlocks hK hP hD hS rfl rfl dX1_kindOf_184
                · replace hf := pI_f c_18 hf
                  by_cases c_20 : x_1 = 15
                  · replace hf := pI_t c_20 hf
                    refine lv_tableIn (tgt := 185) (off := 171) hx hb dX1_kindOf_14 (by rw [c_20]; decide) (by rw [c_20]; decide) (by rw [c_20]; rfl) (by decide) ?_
                    refine lv_iload_n hx hb dX1_kindOf_185 rfl (lv_at hl 0 rfl) ?_
                    refine lv_if_ne (tgt := 194) hx hb dX1_kindOf_186 (by decide) (fun c_19 => ?_) (fun c_19 => ?_)
                    · replace hf := pI_f c_19 hf
                      refine lv_iconst (v := 0) hx hb dX1_kindOf_194 (by decide) ?_
                      have hz := hf
                      subst hz
                      exact gRetI hx hb hr hlocks hK hP hD hS rfl rfl dX1_kindOf_195
                    · replace hf := pI_t c_19 hf
                      refine lv_bipush (v := 29) hx hb dX1_kindOf_189 (by decide) ?_
                      refine lv_goto (tgt := 195) hx hb dX1_kindOf_191 (by decide) ?_
                      have hz := hf
                      subst hz
                      exact gRetI hx hb hr hlocks hK hP hD hS rfl rfl dX1_kindOf_195
                  · replace hf := pI_f c_20 hf
                    have hdef : W p l e rmX1_kindOf s m args below meth c H locs 0 0 (MQ below (oI D vwCl [(cI, .int)] A z ([] : va_W)) args s 0 0 A) (F0 m 196 ls []) := by
                      exact wkX1_kindOf_b196 C0 _ _ H locs ls hf hP hD hS (lv_sub hl [2] rfl)
                    by_cases c_21 : x_1 = 1
                    · refine lv_tableIn (tgt := 196) (off := 182) hx hb dX1_kindOf_14 (by rw [c_21]; decide) (by rw [c_21]; decide) (by rw [c_21]; rfl) (by decide) ?_
                      exact hdef
                    by_cases c_22 : x_1 = 2
                    · refine lv_tableIn (tgt := 196) (off := 182) hx hb dX1_kindOf_14 (by rw [c_22]; decide) (by rw [c_22]; decide) (by rw [c_22]; rfl) (by decide) ?_
                      exact hdef
                    by_cases c_23 : x_1 = 3
                    · refine lv_tableIn (tgt := 196) (off := 182) hx hb dX1_kindOf_14 (by rw [c_23]; decide) (by rw [c_23]; decide) (by rw [c_23]; rfl) (by decide) ?_
                      exact hdef
                    by_cases c_24 : x_1 = 4
                    · refine lv_tableIn (tgt := 196) (off := 182) hx hb dX1_kindOf_14 (by rw [c_24]; decide) (by rw [c_24]; decide) (by rw [c_24]; rfl) (by decide) ?_
                      exact hdef
                    by_cases c_25 : x_1 = 5
                    · refine lv_tableIn (tgt := 196) (off := 182) hx hb dX1_kindOf_14 (by rw [c_25]; decide) (by rw [c_25]; decide) (by rw [c_25]; rfl) (by decide) ?_
                      exact hdef
                    by_cases c_26 : x_1 = 6
                    · refine lv_tableIn (tgt := 196) (off := 182) hx hb dX1_kindOf_14 (by rw [c_26]; decide) (by rw [c_26]; decide) (by rw [c_26]; rfl) (by decide) ?_
                      exact hdef
                    by_cases c_27 : x_1 = 7
                    · refine lv_tableIn (tgt := 196) (off := 182) hx hb dX1_kindOf_14 (by rw [c_27]; decide) (by rw [c_27]; decide) (by rw [c_27]; rfl) (by decide) ?_
                      exact hdef
                    have nc_5 := lv_neT (k := 0) (a := 0) c_5 (by decide)
                    have nc_6 := lv_neT (k := 8) (a := 8) c_6 (by decide)
                    have nc_7 := lv_neT (k := 9) (a := 9) c_7 (by decide)
                    have nc_8 := lv_neT (k := 10) (a := 10) c_8 (by decide)
                    have nc_9 := lv_neT (k := 11) (a := 11) c_9 (by decide)
                    have nc_12 := lv_neT (k := 12) (a := 12) c_12 (by decide)
                    have nc_15 := lv_neT (k := 13) (a := 13) c_15 (by decide)
                    have nc_18 := lv_neT (k := 14) (a := 14) c_18 (by decide)
                    have nc_20 := lv_neT (k := 15) (a := 15) c_20 (by decide)
                    have nc_21 := lv_neT (k := 1) (a := 1) c_21 (by decide)
                    have nc_22 := lv_neT (k := 2) (a := 2) c_22 (by decide)
                    have nc_23 := lv_neT (k := 3) (a := 3) c_23 (by decide)
                    have nc_24 := lv_neT (k := 4) (a := 4) c_24 (by decide)
                    have nc_25 := lv_neT (k := 5) (a := 5) c_25 (by decide)
                    have nc_26 := lv_neT (k := 6) (a := 6) c_26 (by decide)
                    have nc_27 := lv_neT (k := 7) (a := 7) c_27 (by decide)
                    refine lv_tableOut (tgt := 196) hx hb dX1_kindOf_14 (by omega) (by decide) ?_
                    exact hdef
theorem ctX1_kindOf (l : Launch) (D : va_G) (cI : ClassId) (x0 : Int32) (z : Int32) (hz : fX1_kindOf x0 = z) : CtI l yX1_kindOf wsX1_kindOf rmX1_kindOf D vwCl [(cI, .int)] [.int x0] ([] : va_W) z ([] : va_W) :=
  ctI_of (cc := cX1_kindOf) (maxL := 4) (ret := (some .int)) (by decide) rfl (Nat.le_of_ble_eq_true rfl) (fun p e s m below meth c A ls C hl hP hD hS => wkX1_kindOf C z _ s.heap [] ls hz hP hD hS hl)
abbrev rmX1_decode : Room := { frames := 1, cells := 0, slots := 0, locals := 23 }
set_option maxRecDepth 100000 in
set_option maxHeartbeats 4000000 in
theorem wkX1_decode {p : Program} {l : Launch} {e : Env} {s : State} {m : MethodId} {args : Array Value} {below : List Frame} {meth : Method} {c : Code} {D : va_G} {cI : ClassId} {A : Nat → Prop} {b0 : Nat} (C : cxt p s m args meth c cX1_decode (some .int) 4 RX1 wsX1_decode D vwCl [(cI, .int)] A) : ∀ (z : Int32) (f0 : (Nat → Int32)) (x1 : Int32) (H : Heap) (locs : List Loc) (ls : Array Slot), fX1_decode f0 x1 = some z → va_P D vwCl ([(b0, .inl (cI, 256, .inl f0))] : va_W) H → va_D A ([(b0, .inl (cI, 256, .inl f0))] : va_W) → va_S A s.heap H locs → lv_has ls 4 [(0, .ref b0), (1, .int x1)] → W p l e rmX1_decode s m args below meth c H locs 0 0 (MQ below (oI D vwCl [(cI, .int)] A z ([(b0, .inl (cI, 256, .inl f0))] : va_W)) args s 0 0 A) (F0 m 0 ls []) := by
  have C0 := C
  obtain ⟨hx, hb, hr, hml, hown, hts, hlocks, hK, hA⟩ := C
  intro z f0 x1 H locs ls hf hP hD hS hl
  unfold fX1_decode at hf
  refine lv_aload_n hx hb dX1_decode_0 rfl (lv_at hl 0 rfl) ?_
  refine lv_iload_n hx hb dX1_decode_1 rfl (lv_at hl 1 rfl) ?_
  refine lv_sipush (v := 255) hx hb dX1_decode_2 (by decide) ?_
  refine lv_iand hx hb dX1_decode_5 ?_
  obtain ⟨h_1, hf⟩ := pIn_out hf
  refine va_iald hx hb hK hP 0 0 rfl rfl h_1 dX1_decode_6 ?_
  obtain ⟨x_2, ex_2, hf⟩ := pLet_out hf
  refine gTop ex_2 ?_
  refine lv_istore_n (lv' := [(2, .int x_2), (0, .ref b0), (1, .int x1)]) hx hb dX1_decode_7 rfl hl (by decide) rfl (fun ls hl => ?_)
  refine lv_aload_n hx hb dX1_decode_8 rfl (lv_at hl 1 rfl) ?_
  refine lv_iload_n hx hb dX1_decode_9 rfl (lv_at hl 2 rfl) ?_
  refine lv_iconst (v := 1) hx hb dX1_decode_10 (by decide) ?_
  refine lv_iadd hx hb dX1_decode_11 ?_
  refine lv_sipush (v := 255) hx hb dX1_decode_12 (by decide) ?_
  refine lv_iand hx hb dX1_decode_15 ?_
  obtain ⟨h_3, hf⟩ := pIn_out hf
  refine va_iald hx hb hK hP 0 0 rfl rfl h_3 dX1_decode_16 ?_
  obtain ⟨x_4, ex_4, hf⟩ := pLet_out hf
  refine gTop ex_4 ?_
  refine lv_istore_n (lv' := [(3, .int x_4), (2, .int x_2), (0, .ref b0), (1, .int x1)]) hx hb dX1_decode_17 rfl hl (by decide) rfl (fun ls hl => ?_)
  refine lv_iload_n hx hb dX1_decode_18 rfl (lv_at hl 1 rfl) ?_
  obtain ⟨z_5, hz_5, hf⟩ := pLet_out hf
  refine gI0 (va_runS (As := [.int x_2]) (rest := []) ⟨hx, hb, hml, hown, hts⟩ (ctX1_kindOf l D cI x_2 z_5 hz_5.symm H.size) (va_cwS 1 hts gX1_decode_X1_kindOf rfl rfl rfl (by decide +kernel) ⟨Nat.le_of_ble_eq_true rfl, Nat.le_of_ble_eq_true rfl⟩) (gPreS hP hK hD [] (by decide) rfl) rfl rfl hl.1 rfl (lv_room (Nat.le_of_ble_eq_true rfl)) dX1_decode_19 ⟨Nat.le_of_ble_eq_true rfl, Nat.le_of_ble_eq_true rfl⟩) hP hD hS hA (fun H locs hP hS => ?_)
  refine lv_bipush (v := 12) hx hb dX1_decode_22 (by decide) ?_
  refine lv_ishl hx hb dX1_decode_24 ?_
  refine lv_iload_n hx hb dX1_decode_25 rfl (lv_at hl 1 rfl) ?_
  refine lv_bipush (v := 15) hx hb dX1_decode_26 (by decide) ?_
  refine lv_iand hx hb dX1_decode_28 ?_
  refine lv_bipush (v := 8) hx hb dX1_decode_29 (by decide) ?_
  refine lv_ishl hx hb dX1_decode_31 ?_
  refine lv_ior hx hb dX1_decode_32 ?_
  refine lv_iload_n hx hb dX1_decode_33 rfl (lv_at hl 0 rfl) ?_
  refine lv_ior hx hb dX1_decode_34 ?_
  have hz := Option.some.inj hf
  subst hz
  exact gRetI hx hb hr hlocks hK hP hD hS rfl rfl dX1_decode_35
theorem ctX1_decode (l : Launch) (D : va_G) (cI : ClassId) (b0 : Nat) (f0 : (Nat → Int32)) (x1 : Int32) (z : Int32) (hz : fX1_decode f0 x1 = some z) : CtI l yX1_decode wsX1_decode rmX1_decode D vwCl [(cI, .int)] [.ref b0, .int x1] ([(b0, .inl (cI, 256, .inl f0))] : va_W) z ([(b0, .inl (cI, 256, .inl f0))] : va_W) :=
  ctI_of (cc := cX1_decode) (maxL := 4) (ret := (some .int)) (by decide) rfl (Nat.le_of_ble_eq_true rfl) (fun p e s m below meth c A ls C hl hP hD hS => wkX1_decode C z _ _ s.heap [] ls hz hP hD hS hl)
abbrev rmX1_kind : Room := { frames := 0, cells := 0, slots := 0, locals := 0 }
set_option maxRecDepth 100000 in
set_option maxHeartbeats 4000000 in
theorem wkX1_kind {p : Program} {l : Launch} {e : Env} {s : State} {m : MethodId} {args : Array Value} {below : List Frame} {meth : Method} {c : Code} {D : va_G} {cI : ClassId} {A : Nat → Prop} (C : cxt p s m args meth c cX1_kind (some .int) 1 RX1 wsX1_kind D vwCl [(cI, .int)] A) : ∀ (z : Int32) (x0 : Int32) (H : Heap) (locs : List Loc) (ls : Array Slot), fX1_kind x0 = z → va_P D vwCl ([] : va_W) H → va_D A ([] : va_W) → va_S A s.heap H locs → lv_has ls 1 [(0, .int x0)] → W p l e rmX1_kind s m args below meth c H locs 0 0 (MQ below (oI D vwCl [(cI, .int)] A z ([] : va_W)) args s 0 0 A) (F0 m 0 ls []) := by
  have C0 := C
  obtain ⟨hx, hb, hr, hml, hown, hts, hlocks, hK, hA⟩ := C
  intro z x0 H locs ls hf hP hD hS hl
  unfold fX1_kind at hf
  refine lv_iload_n hx hb dX1_kind_0 rfl (lv_at hl 0 rfl) ?_
  refine lv_bipush (v := 12) hx hb dX1_kind_1 (by decide) ?_
  refine lv_ishr hx hb dX1_kind_3 ?_
  refine lv_bipush (v := 31) hx hb dX1_kind_4 (by decide) ?_
  refine lv_iand hx hb dX1_kind_6 ?_
  have hz := hf
  subst hz
  exact gRetI hx hb hr hlocks hK hP hD hS rfl rfl dX1_kind_7
theorem ctX1_kind (l : Launch) (D : va_G) (cI : ClassId) (x0 : Int32) (z : Int32) (hz : fX1_kind x0 = z) : CtI l yX1_kind wsX1_kind rmX1_kind D vwCl [(cI, .int)] [.int x0] ([] : va_W) z ([] : va_W) :=
  ctI_of (cc := cX1_kind) (maxL := 1) (ret := (some .int)) (by decide) rfl (Nat.le_of_ble_eq_true rfl) (fun p e s m below meth c A ls C hl hP hD hS => wkX1_kind C z _ s.heap [] ls hz hP hD hS hl)
abbrev rmX1_bytes : Room := { frames := 0, cells := 0, slots := 0, locals := 0 }
set_option maxRecDepth 100000 in
set_option maxHeartbeats 4000000 in
theorem wkX1_bytes {p : Program} {l : Launch} {e : Env} {s : State} {m : MethodId} {args : Array Value} {below : List Frame} {meth : Method} {c : Code} {D : va_G} {cI : ClassId} {A : Nat → Prop} (C : cxt p s m args meth c cX1_bytes (some .int) 1 RX1 wsX1_bytes D vwCl [(cI, .int)] A) : ∀ (z : Int32) (x0 : Int32) (H : Heap) (locs : List Loc) (ls : Array Slot), fX1_bytes x0 = z → va_P D vwCl ([] : va_W) H → va_D A ([] : va_W) → va_S A s.heap H locs → lv_has ls 1 [(0, .int x0)] → W p l e rmX1_bytes s m args below meth c H locs 0 0 (MQ below (oI D vwCl [(cI, .int)] A z ([] : va_W)) args s 0 0 A) (F0 m 0 ls []) := by
  have C0 := C
  obtain ⟨hx, hb, hr, hml, hown, hts, hlocks, hK, hA⟩ := C
  intro z x0 H locs ls hf hP hD hS hl
  unfold fX1_bytes at hf
  refine lv_iload_n hx hb dX1_bytes_0 rfl (lv_at hl 0 rfl) ?_
  by_cases c_1 : x0 = 17
  · replace hf := pI_t c_1 hf
    refine lv_tableIn (tgt := 68) (off := 67) hx hb dX1_bytes_1 (by rw [c_1]; decide) (by rw [c_1]; decide) (by rw [c_1]; rfl) (by decide) ?_
    refine lv_iconst (v := 2) hx hb dX1_bytes_68 (by decide) ?_
    have hz := hf
    subst hz
    exact gRetI hx hb hr hlocks hK hP hD hS rfl rfl dX1_bytes_69
  · replace hf := pI_f c_1 hf
    by_cases c_2 : x0 = 18
    · replace hf := pI_t c_2 hf
      refine lv_tableIn (tgt := 68) (off := 67) hx hb dX1_bytes_1 (by rw [c_2]; decide) (by rw [c_2]; decide) (by rw [c_2]; rfl) (by decide) ?_
      refine lv_iconst (v := 2) hx hb dX1_bytes_68 (by decide) ?_
      have hz := hf
      subst hz
      exact gRetI hx hb hr hlocks hK hP hD hS rfl rfl dX1_bytes_69
    · replace hf := pI_f c_2 hf
      by_cases c_3 : x0 = 19
      · replace hf := pI_t c_3 hf
        refine lv_tableIn (tgt := 68) (off := 67) hx hb dX1_bytes_1 (by rw [c_3]; decide) (by rw [c_3]; decide) (by rw [c_3]; rfl) (by decide) ?_
        refine lv_iconst (v := 2) hx hb dX1_bytes_68 (by decide) ?_
        have hz := hf
        subst hz
        exact gRetI hx hb hr hlocks hK hP hD hS rfl rfl dX1_bytes_69
      · replace hf := pI_f c_3 hf
        by_cases c_4 : x0 = 20
        · replace hf := pI_t c_4 hf
          refine lv_tableIn (tgt := 68) (off := 67) hx hb dX1_bytes_1 (by rw [c_4]; decide) (by rw [c_4]; decide) (by rw [c_4]; rfl) (by decide) ?_
          refine lv_iconst (v := 2) hx hb dX1_bytes_68 (by decide) ?_
          have hz := hf
          subst hz
          exact gRetI hx hb hr hlocks hK hP hD hS rfl rfl dX1_bytes_69
        · replace hf := pI_f c_4 hf
          by_cases c_5 : x0 = 21
          · replace hf := pI_t c_5 hf
            refine lv_tableIn (tgt := 68) (off := 67) hx hb dX1_bytes_1 (by rw [c_5]; decide) (by rw [c_5]; decide) (by rw [c_5]; rfl) (by decide) ?_
            refine lv_iconst (v := 2) hx hb dX1_bytes_68 (by decide) ?_
            have hz := hf
            subst hz
            exact gRetI hx hb hr hlocks hK hP hD hS rfl rfl dX1_bytes_69
          · replace hf := pI_f c_5 hf
            by_cases c_6 : x0 = 22
            · replace hf := pI_t c_6 hf
              refine lv_tableIn (tgt := 68) (off := 67) hx hb dX1_bytes_1 (by rw [c_6]; decide) (by rw [c_6]; decide) (by rw [c_6]; rfl) (by decide) ?_
              refine lv_iconst (v := 2) hx hb dX1_bytes_68 (by decide) ?_
              have hz := hf
              subst hz
              exact gRetI hx hb hr hlocks hK hP hD hS rfl rfl dX1_bytes_69
            · replace hf := pI_f c_6 hf
              by_cases c_7 : x0 = 23
              · replace hf := pI_t c_7 hf
                refine lv_tableIn (tgt := 68) (off := 67) hx hb dX1_bytes_1 (by rw [c_7]; decide) (by rw [c_7]; decide) (by rw [c_7]; rfl) (by decide) ?_
                refine lv_iconst (v := 2) hx hb dX1_bytes_68 (by decide) ?_
                have hz := hf
                subst hz
                exact gRetI hx hb hr hlocks hK hP hD hS rfl rfl dX1_bytes_69
              · replace hf := pI_f c_7 hf
                by_cases c_8 : x0 = 24
                · replace hf := pI_t c_8 hf
                  refine lv_tableIn (tgt := 68) (off := 67) hx hb dX1_bytes_1 (by rw [c_8]; decide) (by rw [c_8]; decide) (by rw [c_8]; rfl) (by decide) ?_
                  refine lv_iconst (v := 2) hx hb dX1_bytes_68 (by decide) ?_
                  have hz := hf
                  subst hz
                  exact gRetI hx hb hr hlocks hK hP hD hS rfl rfl dX1_bytes_69
                · replace hf := pI_f c_8 hf
                  by_cases c_9 : x0 = 25
                  · replace hf := pI_t c_9 hf
                    refine lv_tableIn (tgt := 68) (off := 67) hx hb dX1_bytes_1 (by rw [c_9]; decide) (by rw [c_9]; decide) (by rw [c_9]; rfl) (by decide) ?_
                    refine lv_iconst (v := 2) hx hb dX1_bytes_68 (by decide) ?_
                    have hz := hf
                    subst hz
                    exact gRetI hx hb hr hlocks hK hP hD hS rfl rfl dX1_bytes_69
                  · replace hf := pI_f c_9 hf
                    by_cases c_10 : x0 = 29
                    · replace hf := pI_t c_10 hf
                      refine lv_tableIn (tgt := 68) (off := 67) hx hb dX1_bytes_1 (by rw [c_10]; decide) (by rw [c_10]; decide) (by rw [c_10]; rfl) (by decide) ?_
                      refine lv_iconst (v := 2) hx hb dX1_bytes_68 (by decide) ?_
                      have hz := hf
                      subst hz
                      exact gRetI hx hb hr hlocks hK hP hD hS rfl rfl dX1_bytes_69
                    · replace hf := pI_f c_10 hf
                      have hdef : W p l e rmX1_bytes s m args below meth c H locs 0 0 (MQ below (oI D vwCl [(cI, .int)] A z ([] : va_W)) args s 0 0 A) (F0 m 70 ls []) := by
                        refine lv_iconst (v := 1) hx hb dX1_bytes_70 (by decide) ?_
                        have hz := hf
                        subst hz
                        exact gRetI hx hb hr hlocks hK hP hD hS rfl rfl dX1_bytes_71
                      by_cases c_11 : x0 = 26
                      · refine lv_tableIn (tgt := 70) (off := 69) hx hb dX1_bytes_1 (by rw [c_11]; decide) (by rw [c_11]; decide) (by rw [c_11]; rfl) (by decide) ?_
                        exact hdef
                      by_cases c_12 : x0 = 27
                      · refine lv_tableIn (tgt := 70) (off := 69) hx hb dX1_bytes_1 (by rw [c_12]; decide) (by rw [c_12]; decide) (by rw [c_12]; rfl) (by decide) ?_
                        exact hdef
                      by_cases c_13 : x0 = 28
                      · refine lv_tableIn (tgt := 70) (off := 69) hx hb dX1_bytes_1 (by rw [c_13]; decide) (by rw [c_13]; decide) (by rw [c_13]; rfl) (by decide) ?_
                        exact hdef
                      have nc_1 := lv_neT (k := 17) (a := 17) c_1 (by decide)
                      have nc_2 := lv_neT (k := 18) (a := 18) c_2 (by decide)
                      have nc_3 := lv_neT (k := 19) (a := 19) c_3 (by decide)
                      have nc_4 := lv_neT (k := 20) (a := 20) c_4 (by decide)
                      have nc_5 := lv_neT (k := 21) (a := 21) c_5 (by decide)
                      have nc_6 := lv_neT (k := 22) (a := 22) c_6 (by decide)
                      have nc_7 := lv_neT (k := 23) (a := 23) c_7 (by decide)
                      have nc_8 := lv_neT (k := 24) (a := 24) c_8 (by decide)
                      have nc_9 := lv_neT (k := 25) (a := 25) c_9 (by decide)
                      have nc_10 := lv_neT (k := 29) (a := 29) c_10 (by decide)
                      have nc_11 := lv_neT (k := 26) (a := 26) c_11 (by decide)
                      have nc_12 := lv_neT (k := 27) (a := 27) c_12 (by decide)
                      have nc_13 := lv_neT (k := 28) (a := 28) c_13 (by decide)
                      refine lv_tableOut (tgt := 70) hx hb dX1_bytes_1 (by omega) (by decide) ?_
                      exact hdef
theorem ctX1_bytes (l : Launch) (D : va_G) (cI : ClassId) (x0 : Int32) (z : Int32) (hz : fX1_bytes x0 = z) : CtI l yX1_bytes wsX1_bytes rmX1_bytes D vwCl [(cI, .int)] [.int x0] ([] : va_W) z ([] : va_W) :=
  ctI_of (cc := cX1_bytes) (maxL := 1) (ret := (some .int)) (by decide) rfl (Nat.le_of_ble_eq_true rfl) (fun p e s m below meth c A ls C hl hP hD hS => wkX1_bytes C z _ s.heap [] ls hz hP hD hS hl)
abbrev rmX1_leavesByItself : Room := { frames := 0, cells := 0, slots := 0, locals := 0 }
set_option maxRecDepth 100000 in
set_option maxHeartbeats 4000000 in
theorem wkX1_leavesByItself {p : Program} {l : Launch} {e : Env} {s : State} {m : MethodId} {args : Array Value} {below : List Frame} {meth : Method} {c : Code} {D : va_G} {cI : ClassId} {A : Nat → Prop} (C : cxt p s m args meth c cX1_leavesByItself (some .boolean) 1 RX1 wsX1_leavesByItself D vwCl [(cI, .int)] A) : ∀ (z : Int32) (x0 : Int32) (H : Heap) (locs : List Loc) (ls : Array Slot), fX1_leavesByItself x0 = z → va_P D vwCl ([] : va_W) H → va_D A ([] : va_W) → va_S A s.heap H locs → lv_has ls 1 [(0, .int x0)] → W p l e rmX1_leavesByItself s m args below meth c H locs 0 0 (MQ below (oI D vwCl [(cI, .int)] A z ([] : va_W)) args s 0 0 A) (F0 m 0 ls []) := by
  have C0 := C
  obtain ⟨hx, hb, hr, hml, hown, hts, hlocks, hK, hA⟩ := C
  intro z x0 H locs ls hf hP hD hS hl
  unfold fX1_leavesByItself at hf
  refine lv_iload_n hx hb dX1_leavesByItself_0 rfl (lv_at hl 0 rfl) ?_
  by_cases c_1 : x0 = 1
  · replace hf := pI_t c_1 hf
    refine lv_lookup (tgt := 60) (off := 59) hx hb dX1_leavesByItself_1 (by decide) (by rw [c_1]; decide) (by decide) ?_
    refine lv_iconst (v := 1) hx hb dX1_leavesByItself_60 (by decide) ?_
    have hz := hf
    subst hz
    exact gRetZ hx hb hr hlocks hK hP hD hS (by decide) rfl rfl dX1_leavesByItself_61
  · replace hf := pI_f c_1 hf
    by_cases c_2 : x0 = 23
    · replace hf := pI_t c_2 hf
      refine lv_lookup (tgt := 60) (off := 59) hx hb dX1_leavesByItself_1 (by decide) (by rw [c_2]; decide) (by decide) ?_
      refine lv_iconst (v := 1) hx hb dX1_leavesByItself_60 (by decide) ?_
      have hz := hf
      subst hz
      exact gRetZ hx hb hr hlocks hK hP hD hS (by decide) rfl rfl dX1_leavesByItself_61
    · replace hf := pI_f c_2 hf
      by_cases c_3 : x0 = 24
      · replace hf := pI_t c_3 hf
        refine lv_lookup (tgt := 60) (off := 59) hx hb dX1_leavesByItself_1 (by decide) (by rw [c_3]; decide) (by decide) ?_
        refine lv_iconst (v := 1) hx hb dX1_leavesByItself_60 (by decide) ?_
        have hz := hf
        subst hz
        exact gRetZ hx hb hr hlocks hK hP hD hS (by decide) rfl rfl dX1_leavesByItself_61
      · replace hf := pI_f c_3 hf
        by_cases c_4 : x0 = 25
        · replace hf := pI_t c_4 hf
          refine lv_lookup (tgt := 60) (off := 59) hx hb dX1_leavesByItself_1 (by decide) (by rw [c_4]; decide) (by decide) ?_
          refine lv_iconst (v := 1) hx hb dX1_leavesByItself_60 (by decide) ?_
          have hz := hf
          subst hz
          exact gRetZ hx hb hr hlocks hK hP hD hS (by decide) rfl rfl dX1_leavesByItself_61
        · replace hf := pI_f c_4 hf
          by_cases c_5 : x0 = 26
          · replace hf := pI_t c_5 hf
            refine lv_lookup (tgt := 60) (off := 59) hx hb dX1_leavesByItself_1 (by decide) (by rw [c_5]; decide) (by decide) ?_
            refine lv_iconst (v := 1) hx hb dX1_leavesByItself_60 (by decide) ?_
            have hz := hf
            subst hz
            exact gRetZ hx hb hr hlocks hK hP hD hS (by decide) rfl rfl dX1_leavesByItself_61
          · replace hf := pI_f c_5 hf
            by_cases c_6 : x0 = 29
            · replace hf := pI_t c_6 hf
              refine lv_lookup (tgt := 60) (off := 59) hx hb dX1_leavesByItself_1 (by decide) (by rw [c_6]; decide) (by decide) ?_
              refine lv_iconst (v := 1) hx hb dX1_leavesByItself_60 (by decide) ?_
              have hz := hf
              subst hz
              exact gRetZ hx hb hr hlocks hK hP hD hS (by decide) rfl rfl dX1_leavesByItself_61
            · replace hf := pI_f c_6 hf
              refine lv_lookup (tgt := 62) (off := 61) hx hb dX1_leavesByItself_1 (by decide) (by first | (rw [lv_osw c_1 (a := 1) (by decide), lv_osw c_2 (a := 23) (by decide), lv_osw c_3 (a := 24) (by decide), lv_osw c_4 (a := 25) (by decide), lv_osw c_5 (a := 26) (by decide), lv_osw c_6 (a := 29) (by decide)]; rfl) | (simp only [Array.toList]; rw [lv_osw c_1 (a := 1) (by decide), lv_osw c_2 (a := 23) (by decide), lv_osw c_3 (a := 24) (by decide), lv_osw c_4 (a := 25) (by decide), lv_osw c_5 (a := 26) (by decide), lv_osw c_6 (a := 29) (by decide)]; rfl)) (by decide) ?_
              refine lv_iconst (v := 0) hx hb dX1_leavesByItself_62 (by decide) ?_
              have hz := hf
              subst hz
              exact gRetZ hx hb hr hlocks hK hP hD hS (by decide) rfl rfl dX1_leavesByItself_63
theorem ctX1_leavesByItself (l : Launch) (D : va_G) (cI : ClassId) (x0 : Int32) (z : Int32) (hz : fX1_leavesByItself x0 = z) : CtI l yX1_leavesByItself wsX1_leavesByItself rmX1_leavesByItself D vwCl [(cI, .int)] [.int x0] ([] : va_W) z ([] : va_W) :=
  ctI_of (cc := cX1_leavesByItself) (maxL := 1) (ret := (some .boolean)) (by decide) rfl (Nat.le_of_ble_eq_true rfl) (fun p e s m below meth c A ls C hl hP hD hS => wkX1_leavesByItself C z _ s.heap [] ls hz hP hD hS hl)
abbrev rmX1_endsBlock : Room := { frames := 1, cells := 0, slots := 0, locals := 20 }
set_option maxRecDepth 100000 in
set_option maxHeartbeats 4000000 in
theorem wkX1_endsBlock {p : Program} {l : Launch} {e : Env} {s : State} {m : MethodId} {args : Array Value} {below : List Frame} {meth : Method} {c : Code} {D : va_G} {cI : ClassId} {A : Nat → Prop} (C : cxt p s m args meth c cX1_endsBlock (some .boolean) 1 RX1 wsX1_endsBlock D vwCl [(cI, .int)] A) : ∀ (z : Int32) (x0 : Int32) (H : Heap) (locs : List Loc) (ls : Array Slot), fX1_endsBlock x0 = z → va_P D vwCl ([] : va_W) H → va_D A ([] : va_W) → va_S A s.heap H locs → lv_has ls 1 [(0, .int x0)] → W p l e rmX1_endsBlock s m args below meth c H locs 0 0 (MQ below (oI D vwCl [(cI, .int)] A z ([] : va_W)) args s 0 0 A) (F0 m 0 ls []) := by
  have C0 := C
  obtain ⟨hx, hb, hr, hml, hown, hts, hlocks, hK, hA⟩ := C
  intro z x0 H locs ls hf hP hD hS hl
  unfold fX1_endsBlock at hf
  refine lv_iload_n hx hb dX1_endsBlock_0 rfl (lv_at hl 0 rfl) ?_
  refine lv_iconst (v := 4) hx hb dX1_endsBlock_1 (by decide) ?_
  refine lv_icmp_eq (tgt := 12) hx hb dX1_endsBlock_2 (by decide) (fun c_1 => ?_) (fun c_1 => ?_)
  · replace hf := pI_t c_1 hf
    refine lv_iconst (v := 1) hx hb dX1_endsBlock_12 (by decide) ?_
    refine lv_goto (tgt := 17) hx hb dX1_endsBlock_13 (by decide) ?_
    have hz := hf
    subst hz
    exact gRetZ hx hb hr hlocks hK hP hD hS (by decide) rfl rfl dX1_endsBlock_17
  · replace hf := pI_f c_1 hf
    refine lv_iload_n hx hb dX1_endsBlock_5 rfl (lv_at hl 0 rfl) ?_
    obtain ⟨z_2, hz_2, hf⟩ := pLet_out hf
    refine gI0 (va_runS (As := [.int x0]) (rest := []) ⟨hx, hb, hml, hown, hts⟩ (ctX1_leavesByItself l D cI x0 z_2 hz_2.symm H.size) (va_cwS 1 hts gX1_endsBlock_X1_leavesByItself rfl rfl rfl (by decide +kernel) ⟨Nat.le_of_ble_eq_true rfl, Nat.le_of_ble_eq_true rfl⟩) (gPreS hP hK hD [] (by decide) rfl) rfl rfl hl.1 rfl (lv_room (Nat.le_of_ble_eq_true rfl)) dX1_endsBlock_6 ⟨Nat.le_of_ble_eq_true rfl, Nat.le_of_ble_eq_true rfl⟩) hP hD hS hA (fun H locs hP hS => ?_)
    refine lv_if_eq (tgt := 16) hx hb dX1_endsBlock_9 (by decide) (fun c_3 => ?_) (fun c_3 => ?_)
    · replace hf := pI_t c_3 hf
      refine lv_iconst (v := 0) hx hb dX1_endsBlock_16 (by decide) ?_
      have hz := hf
      subst hz
      exact gRetZ hx hb hr hlocks hK hP hD hS (by decide) rfl rfl dX1_endsBlock_17
    · replace hf := pI_f c_3 hf
      refine lv_iconst (v := 1) hx hb dX1_endsBlock_12 (by decide) ?_
      refine lv_goto (tgt := 17) hx hb dX1_endsBlock_13 (by decide) ?_
      have hz := hf
      subst hz
      exact gRetZ hx hb hr hlocks hK hP hD hS (by decide) rfl rfl dX1_endsBlock_17
theorem ctX1_endsBlock (l : Launch) (D : va_G) (cI : ClassId) (x0 : Int32) (z : Int32) (hz : fX1_endsBlock x0 = z) : CtI l yX1_endsBlock wsX1_endsBlock rmX1_endsBlock D vwCl [(cI, .int)] [.int x0] ([] : va_W) z ([] : va_W) :=
  ctI_of (cc := cX1_endsBlock) (maxL := 1) (ret := (some .boolean)) (by decide) rfl (Nat.le_of_ble_eq_true rfl) (fun p e s m below meth c A ls C hl hP hD hS => wkX1_endsBlock C z _ s.heap [] ls hz hP hD hS hl)
abbrev rmX1_makesFlags : Room := { frames := 0, cells := 0, slots := 0, locals := 0 }
set_option maxRecDepth 100000 in
set_option maxHeartbeats 4000000 in
theorem wkX1_makesFlags_b12 {p : Program} {l : Launch} {e : Env} {s : State} {m : MethodId} {args : Array Value} {below : List Frame} {meth : Method} {c : Code} {D : va_G} {cI : ClassId} {A : Nat → Prop} (C : cxt p s m args meth c cX1_makesFlags (some .boolean) 1 RX1 wsX1_makesFlags D vwCl [(cI, .int)] A) : ∀ (z : Int32) (x0 : Int32) (H : Heap) (locs : List Loc) (ls : Array Slot), fX1_makesFlags_b12 x0 = z → va_P D vwCl ([] : va_W) H → va_D A ([] : va_W) → va_S A s.heap H locs → lv_has ls 1 [(0, .int x0)] → W p l e rmX1_makesFlags s m args below meth c H locs 0 0 (MQ below (oI D vwCl [(cI, .int)] A z ([] : va_W)) args s 0 0 A) (F0 m 12 ls []) := by
  have C0 := C
  obtain ⟨hx, hb, hr, hml, hown, hts, hlocks, hK, hA⟩ := C
  intro z x0 H locs ls hf hP hD hS hl
  unfold fX1_makesFlags_b12 at hf
  refine lv_iload_n hx hb dX1_makesFlags_12 rfl (lv_at hl 0 rfl) ?_
  refine lv_bipush (v := 18) hx hb dX1_makesFlags_13 (by decide) ?_
  refine lv_icmp_lt (tgt := 28) hx hb dX1_makesFlags_15 (by decide) (fun c_1 => ?_) (fun c_1 => ?_)
  · replace hf := pI_t c_1 hf
    refine lv_iconst (v := 0) hx hb dX1_makesFlags_28 (by decide) ?_
    have hz := hf
    subst hz
    exact gRetZ hx hb hr hlocks hK hP hD hS (by decide) rfl rfl dX1_makesFlags_29
  · replace hf := pI_f c_1 hf
    refine lv_iload_n hx hb dX1_makesFlags_18 rfl (lv_at hl 0 rfl) ?_
    refine lv_bipush (v := 20) hx hb dX1_makesFlags_19 (by decide) ?_
    refine lv_icmp_gt (tgt := 28) hx hb dX1_makesFlags_21 (by decide) (fun c_2 => ?_) (fun c_2 => ?_)
    · replace hf := pI_t c_2 hf
      refine lv_iconst (v := 0) hx hb dX1_makesFlags_28 (by decide) ?_
      have hz := hf
      subst hz
      exact gRetZ hx hb hr hlocks hK hP hD hS (by decide) rfl rfl dX1_makesFlags_29
    · replace hf := pI_f c_2 hf
      refine lv_iconst (v := 1) hx hb dX1_makesFlags_24 (by decide) ?_
      refine lv_goto (tgt := 29) hx hb dX1_makesFlags_25 (by decide) ?_
      have hz := hf
      subst hz
      exact gRetZ hx hb hr hlocks hK hP hD hS (by decide) rfl rfl dX1_makesFlags_29
set_option maxRecDepth 100000 in
set_option maxHeartbeats 4000000 in
theorem wkX1_makesFlags {p : Program} {l : Launch} {e : Env} {s : State} {m : MethodId} {args : Array Value} {below : List Frame} {meth : Method} {c : Code} {D : va_G} {cI : ClassId} {A : Nat → Prop} (C : cxt p s m args meth c cX1_makesFlags (some .boolean) 1 RX1 wsX1_makesFlags D vwCl [(cI, .int)] A) : ∀ (z : Int32) (x0 : Int32) (H : Heap) (locs : List Loc) (ls : Array Slot), fX1_makesFlags x0 = z → va_P D vwCl ([] : va_W) H → va_D A ([] : va_W) → va_S A s.heap H locs → lv_has ls 1 [(0, .int x0)] → W p l e rmX1_makesFlags s m args below meth c H locs 0 0 (MQ below (oI D vwCl [(cI, .int)] A z ([] : va_W)) args s 0 0 A) (F0 m 0 ls []) := by
  have C0 := C
  obtain ⟨hx, hb, hr, hml, hown, hts, hlocks, hK, hA⟩ := C
  intro z x0 H locs ls hf hP hD hS hl
  unfold fX1_makesFlags at hf
  refine lv_iload_n hx hb dX1_makesFlags_0 rfl (lv_at hl 0 rfl) ?_
  refine lv_bipush (v := 7) hx hb dX1_makesFlags_1 (by decide) ?_
  refine lv_icmp_lt (tgt := 12) hx hb dX1_makesFlags_3 (by decide) (fun c_1 => ?_) (fun c_1 => ?_)
  · replace hf := pI_t c_1 hf
    exact wkX1_makesFlags_b12 C0 _ _ H locs ls hf hP hD hS (lv_sub hl [0] rfl)
  · replace hf := pI_f c_1 hf
    refine lv_iload_n hx hb dX1_makesFlags_6 rfl (lv_at hl 0 rfl) ?_
    refine lv_bipush (v := 16) hx hb dX1_makesFlags_7 (by decide) ?_
    refine lv_icmp_le (tgt := 24) hx hb dX1_makesFlags_9 (by decide) (fun c_2 => ?_) (fun c_2 => ?_)
    · replace hf := pI_t c_2 hf
      refine lv_iconst (v := 1) hx hb dX1_makesFlags_24 (by decide) ?_
      refine lv_goto (tgt := 29) hx hb dX1_makesFlags_25 (by decide) ?_
      have hz := hf
      subst hz
      exact gRetZ hx hb hr hlocks hK hP hD hS (by decide) rfl rfl dX1_makesFlags_29
    · replace hf := pI_f c_2 hf
      exact wkX1_makesFlags_b12 C0 _ _ H locs ls hf hP hD hS (lv_sub hl [0] rfl)
theorem ctX1_makesFlags (l : Launch) (D : va_G) (cI : ClassId) (x0 : Int32) (z : Int32) (hz : fX1_makesFlags x0 = z) : CtI l yX1_makesFlags wsX1_makesFlags rmX1_makesFlags D vwCl [(cI, .int)] [.int x0] ([] : va_W) z ([] : va_W) :=
  ctI_of (cc := cX1_makesFlags) (maxL := 1) (ret := (some .boolean)) (by decide) rfl (Nat.le_of_ble_eq_true rfl) (fun p e s m below meth c A ls C hl hP hD hS => wkX1_makesFlags C z _ s.heap [] ls hz hP hD hS hl)
abbrev rmX1_asDead : Room := { frames := 0, cells := 0, slots := 0, locals := 0 }
set_option maxRecDepth 100000 in
set_option maxHeartbeats 4000000 in
theorem wkX1_asDead {p : Program} {l : Launch} {e : Env} {s : State} {m : MethodId} {args : Array Value} {below : List Frame} {meth : Method} {c : Code} {D : va_G} {cI : ClassId} {A : Nat → Prop} (C : cxt p s m args meth c cX1_asDead (some .int) 1 RX1 wsX1_asDead D vwCl [(cI, .int)] A) : ∀ (z : Int32) (x0 : Int32) (H : Heap) (locs : List Loc) (ls : Array Slot), fX1_asDead x0 = z → va_P D vwCl ([] : va_W) H → va_D A ([] : va_W) → va_S A s.heap H locs → lv_has ls 1 [(0, .int x0)] → W p l e rmX1_asDead s m args below meth c H locs 0 0 (MQ below (oI D vwCl [(cI, .int)] A z ([] : va_W)) args s 0 0 A) (F0 m 0 ls []) := by
  have C0 := C
  obtain ⟨hx, hb, hr, hml, hown, hts, hlocks, hK, hA⟩ := C
  intro z x0 H locs ls hf hP hD hS hl
  unfold fX1_asDead at hf
  refine lv_iload_n hx hb dX1_asDead_0 rfl (lv_at hl 0 rfl) ?_
  refine lv_ldc hx hb hown (hts (.constant RX1 13 1048576) (by decide +kernel)) dX1_asDead_1 ?_
  refine lv_ior hx hb dX1_asDead_3 ?_
  have hz := hf
  subst hz
  exact gRetI hx hb hr hlocks hK hP hD hS rfl rfl dX1_asDead_4
theorem ctX1_asDead (l : Launch) (D : va_G) (cI : ClassId) (x0 : Int32) (z : Int32) (hz : fX1_asDead x0 = z) : CtI l yX1_asDead wsX1_asDead rmX1_asDead D vwCl [(cI, .int)] [.int x0] ([] : va_W) z ([] : va_W) :=
  ctI_of (cc := cX1_asDead) (maxL := 1) (ret := (some .int)) (by decide) rfl (Nat.le_of_ble_eq_true rfl) (fun p e s m below meth c A ls C hl hP hD hS => wkX1_asDead C z _ s.heap [] ls hz hP hD hS hl)

abbrev rmX5_thrown : Room := { frames := 0, cells := 0, slots := 0, locals := 0 }
theorem inX5_thrown_X5 : ∀ w ∈ wsX50, w ∈ wsX5_thrown := by decide +kernel
set_option maxRecDepth 100000 in
set_option maxHeartbeats 4000000 in
theorem wkX5_thrown {p : Program} {l : Launch} {e : Env} {s : State} {m : MethodId} {args : Array Value} {below : List Frame} {meth : Method} {c : Code} {D : va_G} {cI : ClassId} {A : Nat → Prop} {a0 a1 a2 a3 a4 a5 a6 a7 a8 a9 a10 a11 a12 a13 : Nat} (C : cxt p s m args meth c cX5_thrown (some .int) 1 RX5 wsX5_thrown D vwCl [(cI, .int)] A) : ∀ (z : Int32) (u : TM) (H : Heap) (locs : List Loc) (ls : Array Slot), fX5_thrown u = z → va_P D vwCl (wM a0 a1 a2 a3 a4 a5 a6 a7 a8 a9 a10 a11 a12 a13 cI u) H → va_D A (wM a0 a1 a2 a3 a4 a5 a6 a7 a8 a9 a10 a11 a12 a13 cI u) → va_S A s.heap H locs → lv_has ls 1 [(0, .ref a0)] → W p l e rmX5_thrown s m args below meth c H locs 0 0 (MQ below (oI D vwCl [(cI, .int)] A z (wM a0 a1 a2 a3 a4 a5 a6 a7 a8 a9 a10 a11 a12 a13 cI u)) args s 0 0 A) (F0 m 0 ls []) := by
  have C0 := C
  obtain ⟨hx, hb, hr, hml, hown, hts, hlocks, hK, hA⟩ := C
  intro z u H locs ls hf hP hD hS hl
  unfold fX5_thrown at hf
  refine lv_aload_n hx hb dX5_thrown_0 rfl (lv_at hl 0 rfl) ?_
  refine va_get (D := D) (ci := 4) (v := .int (gM_refusal u)) (C := RX5) (T := TX5) (N := 27) hx hb hts inX5_thrown_X5 hown hK hP 0 rfl rfl 0 (by decide) (hts (.fieldLink RX5 59 "BlockCacheModel" "refusal" "I") (by decide +kernel)) (fun _ h9 => h9) rfl dX5_thrown_1 ?_
  have hz := hf
  subst hz
  exact gRetI hx hb hr hlocks hK hP hD hS rfl rfl dX5_thrown_4
theorem ctX5_thrown (l : Launch) (D : va_G) (cI : ClassId) (a0 a1 a2 a3 a4 a5 a6 a7 a8 a9 a10 a11 a12 a13 : Nat) (u : TM) (z : Int32) (hz : fX5_thrown u = z) : CtI l yX5_thrown wsX5_thrown rmX5_thrown D vwCl [(cI, .int)] [.ref a0] (wM a0 a1 a2 a3 a4 a5 a6 a7 a8 a9 a10 a11 a12 a13 cI u) z (wM a0 a1 a2 a3 a4 a5 a6 a7 a8 a9 a10 a11 a12 a13 cI u) :=
  ctI_of (cc := cX5_thrown) (maxL := 1) (ret := (some .int)) (by decide) rfl (Nat.le_of_ble_eq_true rfl) (fun p e s m below meth c A ls C hl hP hD hS => wkX5_thrown C z _ s.heap [] ls hz hP hD hS hl)
abbrev rmX5_refused : Room := { frames := 0, cells := 0, slots := 0, locals := 0 }
theorem inX5_refused_X5 : ∀ w ∈ wsX50, w ∈ wsX5_refused := by decide +kernel
set_option maxRecDepth 100000 in
set_option maxHeartbeats 4000000 in
theorem wkX5_refused {p : Program} {l : Launch} {e : Env} {s : State} {m : MethodId} {args : Array Value} {below : List Frame} {meth : Method} {c : Code} {D : va_G} {cI : ClassId} {A : Nat → Prop} {a0 a1 a2 a3 a4 a5 a6 a7 a8 a9 a10 a11 a12 a13 : Nat} (C : cxt p s m args meth c cX5_refused (some .boolean) 2 RX5 wsX5_refused D vwCl [(cI, .int)] A) : ∀ (z : Int32 × TM) (u : TM) (x1 : Int32) (H : Heap) (locs : List Loc) (ls : Array Slot), fX5_refused u x1 = z → va_P D vwCl (wM a0 a1 a2 a3 a4 a5 a6 a7 a8 a9 a10 a11 a12 a13 cI u) H → va_D A (wM a0 a1 a2 a3 a4 a5 a6 a7 a8 a9 a10 a11 a12 a13 cI u) → va_S A s.heap H locs → lv_has ls 2 [(0, .ref a0), (1, .int x1)] → W p l e rmX5_refused s m args below meth c H locs 0 0 (MQ below (oI D vwCl [(cI, .int)] A z.1 (wM a0 a1 a2 a3 a4 a5 a6 a7 a8 a9 a10 a11 a12 a13 cI z.2)) args s 0 0 A) (F0 m 0 ls []) := by
  have C0 := C
  obtain ⟨hx, hb, hr, hml, hown, hts, hlocks, hK, hA⟩ := C
  intro z u x1 H locs ls hf hP hD hS hl
  unfold fX5_refused at hf
  refine lv_aload_n hx hb dX5_refused_0 rfl (lv_at hl 0 rfl) ?_
  refine lv_iload_n hx hb dX5_refused_1 rfl (lv_at hl 1 rfl) ?_
  refine va_put (D := D) (ci := 4) (v := .int x1) (ty := .int) (C := RX5) (T := TX5) (N := 27) hx hb hts inX5_refused_X5 tyX5 tyX5_ok nmX5 hown hK hP hD hS 0 rfl rfl 0 (by decide) (hts (.fieldLink RX5 59 "BlockCacheModel" "refusal" "I") (by decide +kernel)) (fun _ h9 => h9) rfl (by decide +kernel) rfl rfl (Nat.le_of_ble_eq_true rfl) dX5_refused_2 (fun H locs hP hD hS => ?_)
  obtain ⟨u_1, eu_1, hf⟩ := pLet_out hf
  replace hP : va_P D vwCl (wM a0 a1 a2 a3 a4 a5 a6 a7 a8 a9 a10 a11 a12 a13 cI u_1) H := by rw [eu_1]; exact hP
  replace hD : va_D A (wM a0 a1 a2 a3 a4 a5 a6 a7 a8 a9 a10 a11 a12 a13 cI u_1) := by rw [eu_1]; exact hD
  refine lv_iload_n hx hb dX5_refused_5 rfl (lv_at hl 1 rfl) ?_
  refine lv_if_le (tgt := 13) hx hb dX5_refused_6 (by decide) (fun c_2 => ?_) (fun c_2 => ?_)
  · replace hf := pI_t c_2 hf
    refine lv_iconst (v := 0) hx hb dX5_refused_13 (by decide) ?_
    have hz := hf
    subst hz
    exact gRetZ hx hb hr hlocks hK hP hD hS (by decide) rfl rfl dX5_refused_14
  · replace hf := pI_f c_2 hf
    refine lv_iconst (v := 1) hx hb dX5_refused_9 (by decide) ?_
    refine lv_goto (tgt := 14) hx hb dX5_refused_10 (by decide) ?_
    have hz := hf
    subst hz
    exact gRetZ hx hb hr hlocks hK hP hD hS (by decide) rfl rfl dX5_refused_14
theorem ctX5_refused (l : Launch) (D : va_G) (cI : ClassId) (a0 a1 a2 a3 a4 a5 a6 a7 a8 a9 a10 a11 a12 a13 : Nat) (u : TM) (x1 : Int32) (z : Int32 × TM) (hz : fX5_refused u x1 = z) : CtI l yX5_refused wsX5_refused rmX5_refused D vwCl [(cI, .int)] [.ref a0, .int x1] (wM a0 a1 a2 a3 a4 a5 a6 a7 a8 a9 a10 a11 a12 a13 cI u) z.1 (wM a0 a1 a2 a3 a4 a5 a6 a7 a8 a9 a10 a11 a12 a13 cI z.2) :=
  ctI_of (cc := cX5_refused) (maxL := 2) (ret := (some .boolean)) (by decide) rfl (Nat.le_of_ble_eq_true rfl) (fun p e s m below meth c A ls C hl hP hD hS => wkX5_refused C z _ _ s.heap [] ls hz hP hD hS hl)
abbrev rmX5_isIn : Room := { frames := 0, cells := 0, slots := 0, locals := 0 }
set_option maxRecDepth 100000 in
set_option maxHeartbeats 4000000 in
theorem wkX5_isIn {p : Program} {l : Launch} {e : Env} {s : State} {m : MethodId} {args : Array Value} {below : List Frame} {meth : Method} {c : Code} {D : va_G} {cI : ClassId} {A : Nat → Prop} (C : cxt p s m args meth c cX5_isIn (some .boolean) 3 RX5 wsX5_isIn D vwCl [(cI, .int)] A) : ∀ (z : Int32) (x0 : Int32) (x1 : Int32) (x2 : Int32) (H : Heap) (locs : List Loc) (ls : Array Slot), fX5_isIn x0 x1 x2 = z → va_P D vwCl ([] : va_W) H → va_D A ([] : va_W) → va_S A s.heap H locs → lv_has ls 3 [(0, .int x0), (1, .int x1), (2, .int x2)] → W p l e rmX5_isIn s m args below meth c H locs 0 0 (MQ below (oI D vwCl [(cI, .int)] A z ([] : va_W)) args s 0 0 A) (F0 m 0 ls []) := by
  have C0 := C
  obtain ⟨hx, hb, hr, hml, hown, hts, hlocks, hK, hA⟩ := C
  intro z x0 x1 x2 H locs ls hf hP hD hS hl
  unfold fX5_isIn at hf
  refine lv_iload_n hx hb dX5_isIn_0 rfl (lv_at hl 0 rfl) ?_
  refine lv_iload_n hx hb dX5_isIn_1 rfl (lv_at hl 1 rfl) ?_
  refine lv_icmp_lt (tgt := 14) hx hb dX5_isIn_2 (by decide) (fun c_1 => ?_) (fun c_1 => ?_)
  · replace hf := pI_t c_1 hf
    refine lv_iconst (v := 0) hx hb dX5_isIn_14 (by decide) ?_
    have hz := hf
    subst hz
    exact gRetZ hx hb hr hlocks hK hP hD hS (by decide) rfl rfl dX5_isIn_15
  · replace hf := pI_f c_1 hf
    refine lv_iload_n hx hb dX5_isIn_5 rfl (lv_at hl 0 rfl) ?_
    refine lv_iload_n hx hb dX5_isIn_6 rfl (lv_at hl 2 rfl) ?_
    refine lv_icmp_gt (tgt := 14) hx hb dX5_isIn_7 (by decide) (fun c_2 => ?_) (fun c_2 => ?_)
    · replace hf := pI_t c_2 hf
      refine lv_iconst (v := 0) hx hb dX5_isIn_14 (by decide) ?_
      have hz := hf
      subst hz
      exact gRetZ hx hb hr hlocks hK hP hD hS (by decide) rfl rfl dX5_isIn_15
    · replace hf := pI_f c_2 hf
      refine lv_iconst (v := 1) hx hb dX5_isIn_10 (by decide) ?_
      refine lv_goto (tgt := 15) hx hb dX5_isIn_11 (by decide) ?_
      have hz := hf
      subst hz
      exact gRetZ hx hb hr hlocks hK hP hD hS (by decide) rfl rfl dX5_isIn_15
theorem ctX5_isIn (l : Launch) (D : va_G) (cI : ClassId) (x0 : Int32) (x1 : Int32) (x2 : Int32) (z : Int32) (hz : fX5_isIn x0 x1 x2 = z) : CtI l yX5_isIn wsX5_isIn rmX5_isIn D vwCl [(cI, .int)] [.int x0, .int x1, .int x2] ([] : va_W) z ([] : va_W) :=
  ctI_of (cc := cX5_isIn) (maxL := 3) (ret := (some .boolean)) (by decide) rfl (Nat.le_of_ble_eq_true rfl) (fun p e s m below meth c A ls C hl hP hD hS => wkX5_isIn C z _ _ _ s.heap [] ls hz hP hD hS hl)
abbrev rmX5_kindOf : Room := { frames := 0, cells := 0, slots := 0, locals := 0 }
set_option maxRecDepth 100000 in
set_option maxHeartbeats 4000000 in
theorem wkX5_kindOf_b101 {p : Program} {l : Launch} {e : Env} {s : State} {m : MethodId} {args : Array Value} {below : List Frame} {meth : Method} {c : Code} {D : va_G} {cI : ClassId} {A : Nat → Prop} (C : cxt p s m args meth c cX5_kindOf (some .int) 3 RX5 wsX5_kindOf D vwCl [(cI, .int)] A) : ∀ (z : Int32) (x0 : Int32) (H : Heap) (locs : List Loc) (ls : Array Slot), fX5_kindOf_b101 x0 = z → va_P D vwCl ([] : va_W) H → va_D A ([] : va_W) → va_S A s.heap H locs → lv_has ls 3 [(0, .int x0)] → W p l e rmX5_kindOf s m args below meth c H locs 0 0 (MQ below (oI D vwCl [(cI, .int)] A z ([] : va_W)) args s 0 0 A) (F0 m 101 ls []) := by
  have C0 := C
  obtain ⟨hx, hb, hr, hml, hown, hts, hlocks, hK, hA⟩ := C
  intro z x0 H locs ls hf hP hD hS hl
  unfold fX5_kindOf_b101 at hf
  refine lv_bipush (v := 6) hx hb dX5_kindOf_101 (by decide) ?_
  refine lv_iload_n hx hb dX5_kindOf_103 rfl (lv_at hl 0 rfl) ?_
  refine lv_iconst (v := 4) hx hb dX5_kindOf_104 (by decide) ?_
  refine lv_ishr hx hb dX5_kindOf_105 ?_
  refine lv_iadd hx hb dX5_kindOf_106 ?_
  refine lv_iconst (v := 1) hx hb dX5_kindOf_107 (by decide) ?_
  refine lv_isub hx hb dX5_kindOf_108 ?_
  have hz := hf
  subst hz
  exact gRetI hx hb hr hlocks hK hP hD hS rfl rfl dX5_kindOf_109
set_option maxRecDepth 100000 in
set_option maxHeartbeats 4000000 in
theorem wkX5_kindOf {p : Program} {l : Launch} {e : Env} {s : State} {m : MethodId} {args : Array Value} {below : List Frame} {meth : Method} {c : Code} {D : va_G} {cI : ClassId} {A : Nat → Prop} (C : cxt p s m args meth c cX5_kindOf (some .int) 3 RX5 wsX5_kindOf D vwCl [(cI, .int)] A) : ∀ (z : Int32) (x0 : Int32) (H : Heap) (locs : List Loc) (ls : Array Slot), fX5_kindOf x0 = z → va_P D vwCl ([] : va_W) H → va_D A ([] : va_W) → va_S A s.heap H locs → lv_has ls 3 [(0, .int x0)] → W p l e rmX5_kindOf s m args below meth c H locs 0 0 (MQ below (oI D vwCl [(cI, .int)] A z ([] : va_W)) args s 0 0 A) (F0 m 0 ls []) := by
  have C0 := C
  obtain ⟨hx, hb, hr, hml, hown, hts, hlocks, hK, hA⟩ := C
  intro z x0 H locs ls hf hP hD hS hl
  unfold fX5_kindOf at hf
  refine lv_iload_n hx hb dX5_kindOf_0 rfl (lv_at hl 0 rfl) ?_
  refine lv_bipush (v := 15) hx hb dX5_kindOf_1 (by decide) ?_
  refine lv_iand hx hb dX5_kindOf_3 ?_
  obtain ⟨x_1, ex_1, hf⟩ := pLet_out hf
  refine gTop ex_1 ?_
  refine lv_istore_n (lv' := [(1, .int x_1), (0, .int x0)]) hx hb dX5_kindOf_4 rfl hl (by decide) rfl (fun ls hl => ?_)
  refine lv_iload_n hx hb dX5_kindOf_5 rfl (lv_at hl 1 rfl) ?_
  refine lv_iconst (v := 3) hx hb dX5_kindOf_6 (by decide) ?_
  refine lv_iand hx hb dX5_kindOf_7 ?_
  obtain ⟨x_2, ex_2, hf⟩ := pLet_out hf
  refine gTop ex_2 ?_
  refine lv_istore_n (lv' := [(2, .int x_2), (1, .int x_1), (0, .int x0)]) hx hb dX5_kindOf_8 rfl hl (by decide) rfl (fun ls hl => ?_)
  refine lv_iload_n hx hb dX5_kindOf_9 rfl (lv_at hl 2 rfl) ?_
  refine lv_iconst (v := 4) hx hb dX5_kindOf_10 (by decide) ?_
  refine lv_ishr hx hb dX5_kindOf_11 ?_
  obtain ⟨x_3, ex_3, hf⟩ := pLet_out hf
  refine gTop ex_3 ?_
  by_cases c_6 : x_3 = 0
  · replace hf := pI_t c_6 hf
    refine lv_tableIn (tgt := 88) (off := 76) hx hb dX5_kindOf_12 (by rw [c_6]; decide) (by rw [c_6]; decide) (by rw [c_6]; rfl) (by decide) ?_
    refine lv_iload_n hx hb dX5_kindOf_88 rfl (lv_at hl 1 rfl) ?_
    refine lv_iconst (v := 5) hx hb dX5_kindOf_89 (by decide) ?_
    refine lv_icmp_ge (tgt := 99) hx hb dX5_kindOf_90 (by decide) (fun c_5 => ?_) (fun c_5 => ?_)
    · replace hf := pI_t c_5 hf
      refine lv_iconst (v := 0) hx hb dX5_kindOf_99 (by decide) ?_
      have hz := hf
      subst hz
      exact gRetI hx hb hr hlocks hK hP hD hS rfl rfl dX5_kindOf_100
    · replace hf := pI_f c_5 hf
      refine lv_iconst (v := 1) hx hb dX5_kindOf_93 (by decide) ?_
      refine lv_iload_n hx hb dX5_kindOf_94 rfl (lv_at hl 1 rfl) ?_
      refine lv_iadd hx hb dX5_kindOf_95 ?_
      refine lv_goto (tgt := 100) hx hb dX5_kindOf_96 (by decide) ?_
      have hz := hf
      subst hz
      exact gRetI hx hb hr hlocks hK hP hD hS rfl rfl dX5_kindOf_100
  · replace hf := pI_f c_6 hf
    by_cases c_7 : x_3 = 1
    · replace hf := pI_t c_7 hf
      refine lv_tableIn (tgt := 101) (off := 89) hx hb dX5_kindOf_12 (by rw [c_7]; decide) (by rw [c_7]; decide) (by rw [c_7]; rfl) (by decide) ?_
      exact wkX5_kindOf_b101 C0 _ _ H locs ls hf hP hD hS (lv_sub hl [2] rfl)
    · replace hf := pI_f c_7 hf
      by_cases c_8 : x_3 = 2
      · replace hf := pI_t c_8 hf
        refine lv_tableIn (tgt := 101) (off := 89) hx hb dX5_kindOf_12 (by rw [c_8]; decide) (by rw [c_8]; decide) (by rw [c_8]; rfl) (by decide) ?_
        exact wkX5_kindOf_b101 C0 _ _ H locs ls hf hP hD hS (lv_sub hl [2] rfl)
      · replace hf := pI_f c_8 hf
        by_cases c_9 : x_3 = 3
        · replace hf := pI_t c_9 hf
          refine lv_tableIn (tgt := 101) (off := 89) hx hb dX5_kindOf_12 (by rw [c_9]; decide) (by rw [c_9]; decide) (by rw [c_9]; rfl) (by decide) ?_
          exact wkX5_kindOf_b101 C0 _ _ H locs ls hf hP hD hS (lv_sub hl [2] rfl)
        · replace hf := pI_f c_9 hf
          by_cases c_10 : x_3 = 4
          · replace hf := pI_t c_10 hf
            refine lv_tableIn (tgt := 101) (off := 89) hx hb dX5_kindOf_12 (by rw [c_10]; decide) (by rw [c_10]; decide) (by rw [c_10]; rfl) (by decide) ?_
            exact wkX5_kindOf_b101 C0 _ _ H locs ls hf hP hD hS (lv_sub hl [2] rfl)
          · replace hf := pI_f c_10 hf
            by_cases c_11 : x_3 = 5
            · replace hf := pI_t c_11 hf
              refine lv_tableIn (tgt := 101) (off := 89) hx hb dX5_kindOf_12 (by rw [c_11]; decide) (by rw [c_11]; decide) (by rw [c_11]; rfl) (by decide) ?_
              exact wkX5_kindOf_b101 C0 _ _ H locs ls hf hP hD hS (lv_sub hl [2] rfl)
            · replace hf := pI_f c_11 hf
              by_cases c_12 : x_3 = 6
              · replace hf := pI_t c_12 hf
                refine lv_tableIn (tgt := 101) (off := 89) hx hb dX5_kindOf_12 (by rw [c_12]; decide) (by rw [c_12]; decide) (by rw [c_12]; rfl) (by decide) ?_
                exact wkX5_kindOf_b101 C0 _ _ H locs ls hf hP hD hS (lv_sub hl [2] rfl)
              · replace hf := pI_f c_12 hf
                by_cases c_13 : x_3 = 7
                · replace hf := pI_t c_13 hf
                  refine lv_tableIn (tgt := 101) (off := 89) hx hb dX5_kindOf_12 (by rw [c_13]; decide) (by rw [c_13]; decide) (by rw [c_13]; rfl) (by decide) ?_
                  exact wkX5_kindOf_b101 C0 _ _ H locs ls hf hP hD hS (lv_sub hl [2] rfl)
                · replace hf := pI_f c_13 hf
                  by_cases c_14 : x_3 = 8
                  · replace hf := pI_t c_14 hf
                    refine lv_tableIn (tgt := 110) (off := 98) hx hb dX5_kindOf_12 (by rw [c_14]; decide) (by rw [c_14]; decide) (by rw [c_14]; rfl) (by decide) ?_
                    refine lv_bipush (v := 13) hx hb dX5_kindOf_110 (by decide) ?_
                    refine lv_iload_n hx hb dX5_kindOf_112 rfl (lv_at hl 0 rfl) ?_
                    refine lv_iadd hx hb dX5_kindOf_113 ?_
                    have hz := hf
                    subst hz
                    exact gRetI hx hb hr hlocks hK hP hD hS rfl rfl dX5_kindOf_114
                  · replace hf := pI_f c_14 hf
                    by_cases c_15 : x_3 = 9
                    · replace hf := pI_t c_15 hf
                      refine lv_tableIn (tgt := 115) (off := 103) hx hb dX5_kindOf_12 (by rw [c_15]; decide) (by rw [c_15]; decide) (by rw [c_15]; rfl) (by decide) ?_
                      refine lv_bipush (v := 17) hx hb dX5_kindOf_115 (by decide) ?_
                      refine lv_iload_n hx hb dX5_kindOf_117 rfl (lv_at hl 0 rfl) ?_
                      refine lv_iadd hx hb dX5_kindOf_118 ?_
                      have hz := hf
                      subst hz
                      exact gRetI hx hb hr hlocks hK hP hD hS rfl rfl dX5_kindOf_119
                    · replace hf := pI_f c_15 hf
                      by_cases c_16 : x_3 = 10
                      · replace hf := pI_t c_16 hf
                        refine lv_tableIn (tgt := 120) (off := 108) hx hb dX5_kindOf_12 (by rw [c_16]; decide) (by rw [c_16]; decide) (by rw [c_16]; rfl) (by decide) ?_
                        refine lv_bipush (v := 21) hx hb dX5_kindOf_120 (by decide) ?_
                        have hz := hf
                        subst hz
                        exact gRetI hx hb hr hlocks hK hP hD hS rfl rfl dX5_kindOf_122
                      · replace hf := pI_f c_16 hf
                        by_cases c_17 : x_3 = 11
                        · replace hf := pI_t c_17 hf
                          refine lv_tableIn (tgt := 123) (off := 111) hx hb dX5_kindOf_12 (by rw [c_17]; decide) (by rw [c_17]; decide) (by rw [c_17]; rfl) (by decide) ?_
                          refine lv_bipush (v := 22) hx hb dX5_kindOf_123 (by decide) ?_
                          have hz := hf
                          subst hz
                          exact gRetI hx hb hr hlocks hK hP hD hS rfl rfl dX5_kindOf_125
                        · replace hf := pI_f c_17 hf
                          by_cases c_19 : x_3 = 12
                          · replace hf := pI_t c_19 hf
                            refine lv_tableIn (tgt := 126) (off := 114) hx hb dX5_kindOf_12 (by rw [c_19]; decide) (by rw [c_19]; decide) (by rw [c_19]; rfl) (by decide) ?_
                            refine lv_iload_n hx hb dX5_kindOf_126 rfl (lv_at hl 1 rfl) ?_
                            refine lv_bipush (v := 7) hx hb dX5_kindOf_127 (by decide) ?_
                            refine lv_icmp_ge (tgt := 137) hx hb dX5_kindOf_129 (by decide) (fun c_18 => ?_) (fun c_18 => ?_)
                            · replace hf := pI_t c_18 hf
                              refine lv_iconst (v := 0) hx hb dX5_kindOf_137 (by decide) ?_
                              have hz := hf
                              subst hz
                              exact gRetI hx hb hr hlocks hK hP hD hS rfl rfl dX5_kindOf_138
                            · replace hf := pI_f c_18 hf
                              refine lv_bipush (v := 23) hx hb dX5_kindOf_132 (by decide) ?_
                              refine lv_goto (tgt := 138) hx hb dX5_kindOf_134 (by decide) ?_
                              have hz := hf
                              subst hz
                              exact gRetI hx hb hr hlocks hK hP hD hS rfl rfl dX5_kindOf_138
                          · replace hf := pI_f c_19 hf
                            by_cases c_22 : x_3 = 13
                            · replace hf := pI_t c_22 hf
                              refine lv_tableIn (tgt := 139) (off := 127) hx hb dX5_kindOf_12 (by rw [c_22]; decide) (by rw [c_22]; decide) (by rw [c_22]; rfl) (by decide) ?_
                              refine lv_iload_n hx hb dX5_kindOf_139 rfl (lv_at hl 1 rfl) ?_
                              refine lv_if_ne (tgt := 148) hx hb dX5_kindOf_140 (by decide) (fun c_20 => ?_) (fun c_20 => ?_)
                              · replace hf := pI_f c_20 hf
                                refine lv_iload_n hx hb dX5_kindOf_148 rfl (lv_at hl 1 rfl) ?_
                                refine lv_iconst (v := 1) hx hb dX5_kindOf_149 (by decide) ?_
                                refine lv_icmp_ne (tgt := 158) hx hb dX5_kindOf_150 (by decide) (fun c_21 => ?_) (fun c_21 => ?_)
                                · replace hf := pI_f c_21 hf
                                  refine lv_iconst (v := 0) hx hb dX5_kindOf_158 (by decide) ?_
                                  have hz := hf
                                  subst hz
                                  exact gRetI hx hb hr hlocks hK hP hD hS rfl rfl dX5_kindOf_159
                                · replace hf := pI_t c_21 hf
                                  refine lv_bipush (v := 25) hx hb dX5_kindOf_153 (by decide) ?_
                                  refine lv_goto (tgt := 159) hx hb dX5_kindOf_155 (by decide) ?_
                                  have hz := hf
                                  subst hz
                                  exact gRetI hx hb hr hlocks hK hP hD hS rfl rfl dX5_kindOf_159
                              · replace hf := pI_t c_20 hf
                                refine lv_bipush (v := 24) hx hb dX5_kindOf_143 (by decide) ?_
                                refine lv_goto (tgt := 159) hx hb dX5_kindOf_145 (by decide) ?_
                                have hz := hf
                                subst hz
                                exact gRetI hx hb hr hlocks hK hP hD hS rfl rfl dX5_kindOf_159
                            · replace hf := pI_f c_22 hf
                              by_cases c_24 : x_3 = 14
                              · replace hf := pI_t c_24 hf
                                refine lv_tableIn (tgt := 160) (off := 148) hx hb dX5_kindOf_12 (by rw [c_24]; decide) (by rw [c_24]; decide) (by rw [c_24]; rfl) (by decide) ?_
                                refine lv_iload_n hx hb dX5_kindOf_160 rfl (lv_at hl 0 rfl) ?_
                                refine lv_iconst (v := 2) hx hb dX5_kindOf_161 (by decide) ?_
                                refine lv_icmp_ge (tgt := 172) hx hb dX5_kindOf_162 (by decide) (fun c_23 => ?_) (fun c_23 => ?_)
                                · replace hf := pI_t c_23 hf
                                  refine lv_iconst (v := 0) hx hb dX5_kindOf_172 (by decide) ?_
                                  have hz := hf
                                  subst hz
                                  exact gRetI hx hb hr hlocks hK hP hD hS rfl rfl dX5_kindOf_173
                                · replace hf := pI_f c_23 hf
                                  refine lv_bipush (v := 26) hx hb dX5_kindOf_165 (by decide) ?_
                                  refine lv_iload_n hx hb dX5_kindOf_167 rfl (lv_at hl 0 rfl) ?_
                                  refine lv_iadd hx hb dX5_kindOf_168 ?_
                                  refine lv_goto (tgt := 173) hx hb dX5_kindOf_169 (by decide) ?_
                                  have hz := hf
                                  subst hz
                                  exact gRetI hx hb hr hlocks hK hP hD hS rfl rfl dX5_kindOf_173
                              · replace hf := pI_f c_24 hf
                                have nc_6 := lv_neT (k := 0) (a := 0) c_6 (by decide)
                                have nc_7 := lv_neT (k := 1) (a := 1) c_7 (by decide)
                                have nc_8 := lv_neT (k := 2) (a := 2) c_8 (by decide)
                                have nc_9 := lv_neT (k := 3) (a := 3) c_9 (by decide)
                                have nc_10 := lv_neT (k := 4) (a := 4) c_10 (by decide)
                                have nc_11 := lv_neT (k := 5) (a := 5) c_11 (by decide)
                                have nc_12 := lv_neT (k := 6) (a := 6) c_12 (by decide)
                                have nc_13 := lv_neT (k := 7) (a := 7) c_13 (by decide)
                                have nc_14 := lv_neT (k := 8) (a := 8) c_14 (by decide)
                                have nc_15 := lv_neT (k := 9) (a := 9) c_15 (by decide)
                                have nc_16 := lv_neT (k := 10) (a := 10) c_16 (by decide)
                                have nc_17 := lv_neT (k := 11) (a := 11) c_17 (by decide)
                                have nc_19 := lv_neT (k := 12) (a := 12) c_19 (by decide)
                                have nc_22 := lv_neT (k := 13) (a := 13) c_22 (by decide)
                                have nc_24 := lv_neT (k := 14) (a := 14) c_24 (by decide)
                                refine lv_tableOut (tgt := 174) hx hb dX5_kindOf_12 (by omega) (by decide) ?_
                                refine lv_iload_n hx hb dX5_kindOf_174 rfl (lv_at hl 0 rfl) ?_
                                refine lv_if_ne (tgt := 183) hx hb dX5_kindOf_175 (by decide) (fun c_4 => ?_) (fun c_4 => ?_)
                                · replace hf := pI_f c_4 hf
                                  refine lv_iconst (v := 0) hx hb dX5_kindOf_183 (by decide) ?_
                                  have hz := hf
                                  subst hz
                                  exact gRetI hx hb hr hlocks hK hP hD hS rfl rfl dX5_kindOf_184
                                · replace hf := pI_t c_4 hf
                                  refine lv_bipush (v := 28) hx hb dX5_kindOf_178 (by decide) ?_
                                  refine lv_goto (tgt := 184) hx hb dX5_kindOf_180 (by decide) ?_
                                  have hz := hf
                                  subst hz
                                  exact gRetI hx hb hr hlocks hK hP hD hS rfl rfl dX5_kindOf_184
theorem ctX5_kindOf (l : Launch) (D : va_G) (cI : ClassId) (x0 : Int32) (z : Int32) (hz : fX5_kindOf x0 = z) : CtI l yX5_kindOf wsX5_kindOf rmX5_kindOf D vwCl [(cI, .int)] [.int x0] ([] : va_W) z ([] : va_W) :=
  ctI_of (cc := cX5_kindOf) (maxL := 3) (ret := (some .int)) (by decide) rfl (Nat.le_of_ble_eq_true rfl) (fun p e s m below meth c A ls C hl hP hD hS => wkX5_kindOf C z _ s.heap [] ls hz hP hD hS hl)
abbrev rmX5_look : Room := { frames := 1, cells := 0, slots := 0, locals := 22 }
theorem inX5_look_X5 : ∀ w ∈ wsX50, w ∈ wsX5_look := by decide +kernel
set_option maxRecDepth 100000 in
set_option maxHeartbeats 4000000 in
theorem wkX5_look_b57 {p : Program} {l : Launch} {e : Env} {s : State} {m : MethodId} {args : Array Value} {below : List Frame} {meth : Method} {c : Code} {D : va_G} {cI : ClassId} {A : Nat → Prop} {a0 a1 a2 a3 a4 a5 a6 a7 a8 a9 a10 a11 a12 a13 : Nat} (C : cxt p s m args meth c cX5_look none 3 RX5 wsX5_look D vwCl [(cI, .int)] A) : ∀ (z : TM) (u : TM) (y0 : Int32) (H : Heap) (locs : List Loc) (ls : Array Slot), fX5_look_b57 u y0 = some z → va_P D vwCl (wM a0 a1 a2 a3 a4 a5 a6 a7 a8 a9 a10 a11 a12 a13 cI u) H → va_D A (wM a0 a1 a2 a3 a4 a5 a6 a7 a8 a9 a10 a11 a12 a13 cI u) → va_S A s.heap H locs → lv_has ls 3 [] → W p l e rmX5_look s m args below meth c H locs 0 0 (MQ below (oV D vwCl [(cI, .int)] A (wM a0 a1 a2 a3 a4 a5 a6 a7 a8 a9 a10 a11 a12 a13 cI z)) args s 0 0 A) (F0 m 57 ls [.int y0, .ref a0]) := by
  have C0 := C
  obtain ⟨hx, hb, hr, hml, hown, hts, hlocks, hK, hA⟩ := C
  intro z u y0 H locs ls hf hP hD hS hl
  unfold fX5_look_b57 at hf
  refine va_put (D := D) (ci := 4) (v := .int y0) (ty := .int) (C := RX5) (T := TX5) (N := 27) hx hb hts inX5_look_X5 tyX5 tyX5_ok nmX5 hown hK hP hD hS 0 rfl rfl 19 (by decide) (hts (.fieldLink RX5 69 "BlockCacheModel" "bytes" "I") (by decide +kernel)) (fun _ h9 => h9) rfl (by decide +kernel) rfl rfl (Nat.le_of_ble_eq_true rfl) dX5_look_57 (fun H locs hP hD hS => ?_)
  obtain ⟨u_1, eu_1, hf⟩ := pLet_out hf
  replace hP : va_P D vwCl (wM a0 a1 a2 a3 a4 a5 a6 a7 a8 a9 a10 a11 a12 a13 cI u_1) H := by rw [eu_1]; exact hP
  replace hD : va_D A (wM a0 a1 a2 a3 a4 a5 a6 a7 a8 a9 a10 a11 a12 a13 cI u_1) := by rw [eu_1]; exact hD
  have hz := Option.some.inj hf
  subst hz
  exact gRetV hx hb hr hlocks hK hP hD hS rfl dX5_look_60
set_option maxRecDepth 100000 in
set_option maxHeartbeats 4000000 in
theorem wkX5_look_b52 {p : Program} {l : Launch} {e : Env} {s : State} {m : MethodId} {args : Array Value} {below : List Frame} {meth : Method} {c : Code} {D : va_G} {cI : ClassId} {A : Nat → Prop} {a0 a1 a2 a3 a4 a5 a6 a7 a8 a9 a10 a11 a12 a13 : Nat} (C : cxt p s m args meth c cX5_look none 3 RX5 wsX5_look D vwCl [(cI, .int)] A) : ∀ (z : TM) (u : TM) (H : Heap) (locs : List Loc) (ls : Array Slot), fX5_look_b52 u = some z → va_P D vwCl (wM a0 a1 a2 a3 a4 a5 a6 a7 a8 a9 a10 a11 a12 a13 cI u) H → va_D A (wM a0 a1 a2 a3 a4 a5 a6 a7 a8 a9 a10 a11 a12 a13 cI u) → va_S A s.heap H locs → lv_has ls 3 [] → W p l e rmX5_look s m args below meth c H locs 0 0 (MQ below (oV D vwCl [(cI, .int)] A (wM a0 a1 a2 a3 a4 a5 a6 a7 a8 a9 a10 a11 a12 a13 cI z)) args s 0 0 A) (F0 m 52 ls [.ref a0]) := by
  have C0 := C
  obtain ⟨hx, hb, hr, hml, hown, hts, hlocks, hK, hA⟩ := C
  intro z u H locs ls hf hP hD hS hl
  unfold fX5_look_b52 at hf
  refine lv_iconst (v := 2) hx hb dX5_look_52 (by decide) ?_
  refine lv_goto (tgt := 57) hx hb dX5_look_53 (by decide) ?_
  exact wkX5_look_b57 C0 _ _ _ H locs ls hf hP hD hS (lv_sub hl [] rfl)
set_option maxRecDepth 100000 in
set_option maxHeartbeats 4000000 in
theorem wkX5_look_b34 {p : Program} {l : Launch} {e : Env} {s : State} {m : MethodId} {args : Array Value} {below : List Frame} {meth : Method} {c : Code} {D : va_G} {cI : ClassId} {A : Nat → Prop} {a0 a1 a2 a3 a4 a5 a6 a7 a8 a9 a10 a11 a12 a13 : Nat} (C : cxt p s m args meth c cX5_look none 3 RX5 wsX5_look D vwCl [(cI, .int)] A) : ∀ (z : TM) (u : TM) (H : Heap) (locs : List Loc) (ls : Array Slot), fX5_look_b34 u = some z → va_P D vwCl (wM a0 a1 a2 a3 a4 a5 a6 a7 a8 a9 a10 a11 a12 a13 cI u) H → va_D A (wM a0 a1 a2 a3 a4 a5 a6 a7 a8 a9 a10 a11 a12 a13 cI u) → va_S A s.heap H locs → lv_has ls 3 [(0, .ref a0)] → W p l e rmX5_look s m args below meth c H locs 0 0 (MQ below (oV D vwCl [(cI, .int)] A (wM a0 a1 a2 a3 a4 a5 a6 a7 a8 a9 a10 a11 a12 a13 cI z)) args s 0 0 A) (F0 m 34 ls [.ref a0]) := by
  have C0 := C
  obtain ⟨hx, hb, hr, hml, hown, hts, hlocks, hK, hA⟩ := C
  intro z u H locs ls hf hP hD hS hl
  unfold fX5_look_b34 at hf
  refine lv_aload_n hx hb dX5_look_34 rfl (lv_at hl 0 rfl) ?_
  refine va_get (D := D) (ci := 4) (v := .int (gM_kind u)) (C := RX5) (T := TX5) (N := 27) hx hb hts inX5_look_X5 hown hK hP 0 rfl rfl 18 (by decide) (hts (.fieldLink RX5 66 "BlockCacheModel" "kind" "I") (by decide +kernel)) (fun _ h9 => h9) rfl dX5_look_35 ?_
  refine lv_bipush (v := 24) hx hb dX5_look_38 (by decide) ?_
  refine lv_icmp_eq (tgt := 52) hx hb dX5_look_40 (by decide) (fun c_1 => ?_) (fun c_1 => ?_)
  · replace hf := pI_t c_1 hf
    exact wkX5_look_b52 C0 _ _ H locs ls hf hP hD hS (lv_sub hl [] rfl)
  · replace hf := pI_f c_1 hf
    refine lv_aload_n hx hb dX5_look_43 rfl (lv_at hl 0 rfl) ?_
    refine va_get (D := D) (ci := 4) (v := .int (gM_kind u)) (C := RX5) (T := TX5) (N := 27) hx hb hts inX5_look_X5 hown hK hP 0 rfl rfl 18 (by decide) (hts (.fieldLink RX5 66 "BlockCacheModel" "kind" "I") (by decide +kernel)) (fun _ h9 => h9) rfl dX5_look_44 ?_
    refine lv_bipush (v := 28) hx hb dX5_look_47 (by decide) ?_
    refine lv_icmp_ne (tgt := 56) hx hb dX5_look_49 (by decide) (fun c_2 => ?_) (fun c_2 => ?_)
    · replace hf := pI_f c_2 hf
      refine lv_iconst (v := 1) hx hb dX5_look_56 (by decide) ?_
      exact wkX5_look_b57 C0 _ _ _ H locs ls hf hP hD hS (lv_sub hl [] rfl)
    · replace hf := pI_t c_2 hf
      exact wkX5_look_b52 C0 _ _ H locs ls hf hP hD hS (lv_sub hl [] rfl)
set_option maxRecDepth 100000 in
set_option maxHeartbeats 4000000 in
theorem wkX5_look {p : Program} {l : Launch} {e : Env} {s : State} {m : MethodId} {args : Array Value} {below : List Frame} {meth : Method} {c : Code} {D : va_G} {cI : ClassId} {A : Nat → Prop} {a0 a1 a2 a3 a4 a5 a6 a7 a8 a9 a10 a11 a12 a13 : Nat} (C : cxt p s m args meth c cX5_look none 3 RX5 wsX5_look D vwCl [(cI, .int)] A) : ∀ (z : TM) (u : TM) (x1 : Int32) (H : Heap) (locs : List Loc) (ls : Array Slot), fX5_look u x1 = some z → va_P D vwCl (wM a0 a1 a2 a3 a4 a5 a6 a7 a8 a9 a10 a11 a12 a13 cI u) H → va_D A (wM a0 a1 a2 a3 a4 a5 a6 a7 a8 a9 a10 a11 a12 a13 cI u) → va_S A s.heap H locs → lv_has ls 3 [(0, .ref a0), (1, .int x1)] → W p l e rmX5_look s m args below meth c H locs 0 0 (MQ below (oV D vwCl [(cI, .int)] A (wM a0 a1 a2 a3 a4 a5 a6 a7 a8 a9 a10 a11 a12 a13 cI z)) args s 0 0 A) (F0 m 0 ls []) := by
  have C0 := C
  obtain ⟨hx, hb, hr, hml, hown, hts, hlocks, hK, hA⟩ := C
  intro z u x1 H locs ls hf hP hD hS hl
  unfold fX5_look at hf
  refine lv_aload_n hx hb dX5_look_0 rfl (lv_at hl 0 rfl) ?_
  refine va_get (D := D) (ci := 4) (v := .ref a1) (C := RX5) (T := TX5) (N := 27) hx hb hts inX5_look_X5 hown hK hP 0 rfl rfl 1 (by decide) (hts (.fieldLink RX5 7 "BlockCacheModel" "memory" "[I") (by decide +kernel)) (fun _ h9 => h9) rfl dX5_look_1 ?_
  refine lv_iload_n hx hb dX5_look_4 rfl (lv_at hl 1 rfl) ?_
  obtain ⟨h_1, hf⟩ := pIn_out hf
  refine va_iald hx hb hK hP 1 0 rfl rfl h_1 dX5_look_5 ?_
  obtain ⟨x_2, ex_2, hf⟩ := pLet_out hf
  refine gTop ex_2 ?_
  refine lv_istore_n (lv' := [(2, .int x_2), (0, .ref a0), (1, .int x1)]) hx hb dX5_look_6 rfl hl (by decide) rfl (fun ls hl => ?_)
  refine lv_aload_n hx hb dX5_look_7 rfl (lv_at hl 1 rfl) ?_
  refine lv_iload_n hx hb dX5_look_8 rfl (lv_at hl 0 rfl) ?_
  obtain ⟨z_3, hz_3, hf⟩ := pLet_out hf
  refine gI0 (va_runS (As := [.int x_2]) (rest := [.ref a0]) ⟨hx, hb, hml, hown, hts⟩ (ctX5_kindOf l D cI x_2 z_3 hz_3.symm H.size) (va_cwS 1 hts gX5_look_X5_kindOf rfl rfl rfl (by decide +kernel) ⟨Nat.le_of_ble_eq_true rfl, Nat.le_of_ble_eq_true rfl⟩) (gPreS hP hK hD [] (by decide) rfl) rfl rfl hl.1 rfl (lv_room (Nat.le_of_ble_eq_true rfl)) dX5_look_9 ⟨Nat.le_of_ble_eq_true rfl, Nat.le_of_ble_eq_true rfl⟩) hP hD hS hA (fun H locs hP hS => ?_)
  refine va_put (D := D) (ci := 4) (v := .int z_3) (ty := .int) (C := RX5) (T := TX5) (N := 27) hx hb hts inX5_look_X5 tyX5 tyX5_ok nmX5 hown hK hP hD hS 0 rfl rfl 18 (by decide) (hts (.fieldLink RX5 66 "BlockCacheModel" "kind" "I") (by decide +kernel)) (fun _ h9 => h9) rfl (by decide +kernel) rfl rfl (Nat.le_of_ble_eq_true rfl) dX5_look_12 (fun H locs hP hD hS => ?_)
  obtain ⟨u_4, eu_4, hf⟩ := pLet_out hf
  replace hP : va_P D vwCl (wM a0 a1 a2 a3 a4 a5 a6 a7 a8 a9 a10 a11 a12 a13 cI u_4) H := by rw [eu_4]; exact hP
  replace hD : va_D A (wM a0 a1 a2 a3 a4 a5 a6 a7 a8 a9 a10 a11 a12 a13 cI u_4) := by rw [eu_4]; exact hD
  refine lv_aload_n hx hb dX5_look_15 rfl (lv_at hl 1 rfl) ?_
  refine lv_aload_n hx hb dX5_look_16 rfl (lv_at hl 1 rfl) ?_
  refine va_get (D := D) (ci := 4) (v := .int (gM_kind u_4)) (C := RX5) (T := TX5) (N := 27) hx hb hts inX5_look_X5 hown hK hP 0 rfl rfl 18 (by decide) (hts (.fieldLink RX5 66 "BlockCacheModel" "kind" "I") (by decide +kernel)) (fun _ h9 => h9) rfl dX5_look_17 ?_
  refine lv_bipush (v := 17) hx hb dX5_look_20 (by decide) ?_
  refine lv_icmp_lt (tgt := 34) hx hb dX5_look_22 (by decide) (fun c_5 => ?_) (fun c_5 => ?_)
  · replace hf := pI_t c_5 hf
    exact wkX5_look_b34 C0 _ _ H locs ls hf hP hD hS (lv_sub hl [1] rfl)
  · replace hf := pI_f c_5 hf
    refine lv_aload_n hx hb dX5_look_25 rfl (lv_at hl 1 rfl) ?_
    refine va_get (D := D) (ci := 4) (v := .int (gM_kind u_4)) (C := RX5) (T := TX5) (N := 27) hx hb hts inX5_look_X5 hown hK hP 0 rfl rfl 18 (by decide) (hts (.fieldLink RX5 66 "BlockCacheModel" "kind" "I") (by decide +kernel)) (fun _ h9 => h9) rfl dX5_look_26 ?_
    refine lv_bipush (v := 23) hx hb dX5_look_29 (by decide) ?_
    refine lv_icmp_le (tgt := 52) hx hb dX5_look_31 (by decide) (fun c_6 => ?_) (fun c_6 => ?_)
    · replace hf := pI_t c_6 hf
      exact wkX5_look_b52 C0 _ _ H locs ls hf hP hD hS (lv_sub hl [] rfl)
    · replace hf := pI_f c_6 hf
      exact wkX5_look_b34 C0 _ _ H locs ls hf hP hD hS (lv_sub hl [1] rfl)
theorem ctX5_look (l : Launch) (D : va_G) (cI : ClassId) (a0 a1 a2 a3 a4 a5 a6 a7 a8 a9 a10 a11 a12 a13 : Nat) (u : TM) (x1 : Int32) (z : TM) (hz : fX5_look u x1 = some z) : CtV l yX5_look wsX5_look rmX5_look D vwCl [(cI, .int)] [.ref a0, .int x1] (wM a0 a1 a2 a3 a4 a5 a6 a7 a8 a9 a10 a11 a12 a13 cI u) (wM a0 a1 a2 a3 a4 a5 a6 a7 a8 a9 a10 a11 a12 a13 cI z) :=
  ctV_of (cc := cX5_look) (maxL := 3) (ret := none) (by decide) rfl (Nat.le_of_ble_eq_true rfl) (fun p e s m below meth c A ls C hl hP hD hS => wkX5_look C z _ _ s.heap [] ls hz hP hD hS hl)
abbrev rmX5_makes : Room := { frames := 0, cells := 0, slots := 0, locals := 0 }
set_option maxRecDepth 100000 in
set_option maxHeartbeats 4000000 in
theorem wkX5_makes_b12 {p : Program} {l : Launch} {e : Env} {s : State} {m : MethodId} {args : Array Value} {below : List Frame} {meth : Method} {c : Code} {D : va_G} {cI : ClassId} {A : Nat → Prop} (C : cxt p s m args meth c cX5_makes (some .boolean) 1 RX5 wsX5_makes D vwCl [(cI, .int)] A) : ∀ (z : Int32) (x0 : Int32) (H : Heap) (locs : List Loc) (ls : Array Slot), fX5_makes_b12 x0 = z → va_P D vwCl ([] : va_W) H → va_D A ([] : va_W) → va_S A s.heap H locs → lv_has ls 1 [(0, .int x0)] → W p l e rmX5_makes s m args below meth c H locs 0 0 (MQ below (oI D vwCl [(cI, .int)] A z ([] : va_W)) args s 0 0 A) (F0 m 12 ls []) := by
  have C0 := C
  obtain ⟨hx, hb, hr, hml, hown, hts, hlocks, hK, hA⟩ := C
  intro z x0 H locs ls hf hP hD hS hl
  unfold fX5_makes_b12 at hf
  refine lv_iload_n hx hb dX5_makes_12 rfl (lv_at hl 0 rfl) ?_
  refine lv_bipush (v := 18) hx hb dX5_makes_13 (by decide) ?_
  refine lv_icmp_lt (tgt := 28) hx hb dX5_makes_15 (by decide) (fun c_1 => ?_) (fun c_1 => ?_)
  · replace hf := pI_t c_1 hf
    refine lv_iconst (v := 0) hx hb dX5_makes_28 (by decide) ?_
    have hz := hf
    subst hz
    exact gRetZ hx hb hr hlocks hK hP hD hS (by decide) rfl rfl dX5_makes_29
  · replace hf := pI_f c_1 hf
    refine lv_iload_n hx hb dX5_makes_18 rfl (lv_at hl 0 rfl) ?_
    refine lv_bipush (v := 20) hx hb dX5_makes_19 (by decide) ?_
    refine lv_icmp_gt (tgt := 28) hx hb dX5_makes_21 (by decide) (fun c_2 => ?_) (fun c_2 => ?_)
    · replace hf := pI_t c_2 hf
      refine lv_iconst (v := 0) hx hb dX5_makes_28 (by decide) ?_
      have hz := hf
      subst hz
      exact gRetZ hx hb hr hlocks hK hP hD hS (by decide) rfl rfl dX5_makes_29
    · replace hf := pI_f c_2 hf
      refine lv_iconst (v := 1) hx hb dX5_makes_24 (by decide) ?_
      refine lv_goto (tgt := 29) hx hb dX5_makes_25 (by decide) ?_
      have hz := hf
      subst hz
      exact gRetZ hx hb hr hlocks hK hP hD hS (by decide) rfl rfl dX5_makes_29
set_option maxRecDepth 100000 in
set_option maxHeartbeats 4000000 in
theorem wkX5_makes {p : Program} {l : Launch} {e : Env} {s : State} {m : MethodId} {args : Array Value} {below : List Frame} {meth : Method} {c : Code} {D : va_G} {cI : ClassId} {A : Nat → Prop} (C : cxt p s m args meth c cX5_makes (some .boolean) 1 RX5 wsX5_makes D vwCl [(cI, .int)] A) : ∀ (z : Int32) (x0 : Int32) (H : Heap) (locs : List Loc) (ls : Array Slot), fX5_makes x0 = z → va_P D vwCl ([] : va_W) H → va_D A ([] : va_W) → va_S A s.heap H locs → lv_has ls 1 [(0, .int x0)] → W p l e rmX5_makes s m args below meth c H locs 0 0 (MQ below (oI D vwCl [(cI, .int)] A z ([] : va_W)) args s 0 0 A) (F0 m 0 ls []) := by
  have C0 := C
  obtain ⟨hx, hb, hr, hml, hown, hts, hlocks, hK, hA⟩ := C
  intro z x0 H locs ls hf hP hD hS hl
  unfold fX5_makes at hf
  refine lv_iload_n hx hb dX5_makes_0 rfl (lv_at hl 0 rfl) ?_
  refine lv_bipush (v := 7) hx hb dX5_makes_1 (by decide) ?_
  refine lv_icmp_lt (tgt := 12) hx hb dX5_makes_3 (by decide) (fun c_1 => ?_) (fun c_1 => ?_)
  · replace hf := pI_t c_1 hf
    exact wkX5_makes_b12 C0 _ _ H locs ls hf hP hD hS (lv_sub hl [0] rfl)
  · replace hf := pI_f c_1 hf
    refine lv_iload_n hx hb dX5_makes_6 rfl (lv_at hl 0 rfl) ?_
    refine lv_bipush (v := 16) hx hb dX5_makes_7 (by decide) ?_
    refine lv_icmp_le (tgt := 24) hx hb dX5_makes_9 (by decide) (fun c_2 => ?_) (fun c_2 => ?_)
    · replace hf := pI_t c_2 hf
      refine lv_iconst (v := 1) hx hb dX5_makes_24 (by decide) ?_
      refine lv_goto (tgt := 29) hx hb dX5_makes_25 (by decide) ?_
      have hz := hf
      subst hz
      exact gRetZ hx hb hr hlocks hK hP hD hS (by decide) rfl rfl dX5_makes_29
    · replace hf := pI_f c_2 hf
      exact wkX5_makes_b12 C0 _ _ H locs ls hf hP hD hS (lv_sub hl [0] rfl)
theorem ctX5_makes (l : Launch) (D : va_G) (cI : ClassId) (x0 : Int32) (z : Int32) (hz : fX5_makes x0 = z) : CtI l yX5_makes wsX5_makes rmX5_makes D vwCl [(cI, .int)] [.int x0] ([] : va_W) z ([] : va_W) :=
  ctI_of (cc := cX5_makes) (maxL := 1) (ret := (some .boolean)) (by decide) rfl (Nat.le_of_ble_eq_true rfl) (fun p e s m below meth c A ls C hl hP hD hS => wkX5_makes C z _ s.heap [] ls hz hP hD hS hl)
abbrev rmX5_ends : Room := { frames := 0, cells := 0, slots := 0, locals := 0 }
set_option maxRecDepth 100000 in
set_option maxHeartbeats 4000000 in
theorem wkX5_ends {p : Program} {l : Launch} {e : Env} {s : State} {m : MethodId} {args : Array Value} {below : List Frame} {meth : Method} {c : Code} {D : va_G} {cI : ClassId} {A : Nat → Prop} (C : cxt p s m args meth c cX5_ends (some .boolean) 1 RX5 wsX5_ends D vwCl [(cI, .int)] A) : ∀ (z : Int32) (x0 : Int32) (H : Heap) (locs : List Loc) (ls : Array Slot), fX5_ends x0 = z → va_P D vwCl ([] : va_W) H → va_D A ([] : va_W) → va_S A s.heap H locs → lv_has ls 1 [(0, .int x0)] → W p l e rmX5_ends s m args below meth c H locs 0 0 (MQ below (oI D vwCl [(cI, .int)] A z ([] : va_W)) args s 0 0 A) (F0 m 0 ls []) := by
  have C0 := C
  obtain ⟨hx, hb, hr, hml, hown, hts, hlocks, hK, hA⟩ := C
  intro z x0 H locs ls hf hP hD hS hl
  unfold fX5_ends at hf
  refine lv_iload_n hx hb dX5_ends_0 rfl (lv_at hl 0 rfl) ?_
  refine lv_iconst (v := 1) hx hb dX5_ends_1 (by decide) ?_
  refine lv_icmp_eq (tgt := 34) hx hb dX5_ends_2 (by decide) (fun c_1 => ?_) (fun c_1 => ?_)
  · replace hf := pI_t c_1 hf
    refine lv_iconst (v := 1) hx hb dX5_ends_34 (by decide) ?_
    refine lv_goto (tgt := 39) hx hb dX5_ends_35 (by decide) ?_
    have hz := hf
    subst hz
    exact gRetZ hx hb hr hlocks hK hP hD hS (by decide) rfl rfl dX5_ends_39
  · replace hf := pI_f c_1 hf
    refine lv_iload_n hx hb dX5_ends_5 rfl (lv_at hl 0 rfl) ?_
    refine lv_iconst (v := 4) hx hb dX5_ends_6 (by decide) ?_
    refine lv_icmp_eq (tgt := 34) hx hb dX5_ends_7 (by decide) (fun c_2 => ?_) (fun c_2 => ?_)
    · replace hf := pI_t c_2 hf
      refine lv_iconst (v := 1) hx hb dX5_ends_34 (by decide) ?_
      refine lv_goto (tgt := 39) hx hb dX5_ends_35 (by decide) ?_
      have hz := hf
      subst hz
      exact gRetZ hx hb hr hlocks hK hP hD hS (by decide) rfl rfl dX5_ends_39
    · replace hf := pI_f c_2 hf
      refine lv_iload_n hx hb dX5_ends_10 rfl (lv_at hl 0 rfl) ?_
      refine lv_bipush (v := 23) hx hb dX5_ends_11 (by decide) ?_
      refine lv_icmp_eq (tgt := 34) hx hb dX5_ends_13 (by decide) (fun c_3 => ?_) (fun c_3 => ?_)
      · replace hf := pI_t c_3 hf
        refine lv_iconst (v := 1) hx hb dX5_ends_34 (by decide) ?_
        refine lv_goto (tgt := 39) hx hb dX5_ends_35 (by decide) ?_
        have hz := hf
        subst hz
        exact gRetZ hx hb hr hlocks hK hP hD hS (by decide) rfl rfl dX5_ends_39
      · replace hf := pI_f c_3 hf
        refine lv_iload_n hx hb dX5_ends_16 rfl (lv_at hl 0 rfl) ?_
        refine lv_bipush (v := 24) hx hb dX5_ends_17 (by decide) ?_
        refine lv_icmp_eq (tgt := 34) hx hb dX5_ends_19 (by decide) (fun c_4 => ?_) (fun c_4 => ?_)
        · replace hf := pI_t c_4 hf
          refine lv_iconst (v := 1) hx hb dX5_ends_34 (by decide) ?_
          refine lv_goto (tgt := 39) hx hb dX5_ends_35 (by decide) ?_
          have hz := hf
          subst hz
          exact gRetZ hx hb hr hlocks hK hP hD hS (by decide) rfl rfl dX5_ends_39
        · replace hf := pI_f c_4 hf
          refine lv_iload_n hx hb dX5_ends_22 rfl (lv_at hl 0 rfl) ?_
          refine lv_bipush (v := 25) hx hb dX5_ends_23 (by decide) ?_
          refine lv_icmp_eq (tgt := 34) hx hb dX5_ends_25 (by decide) (fun c_5 => ?_) (fun c_5 => ?_)
          · replace hf := pI_t c_5 hf
            refine lv_iconst (v := 1) hx hb dX5_ends_34 (by decide) ?_
            refine lv_goto (tgt := 39) hx hb dX5_ends_35 (by decide) ?_
            have hz := hf
            subst hz
            exact gRetZ hx hb hr hlocks hK hP hD hS (by decide) rfl rfl dX5_ends_39
          · replace hf := pI_f c_5 hf
            refine lv_iload_n hx hb dX5_ends_28 rfl (lv_at hl 0 rfl) ?_
            refine lv_bipush (v := 28) hx hb dX5_ends_29 (by decide) ?_
            refine lv_icmp_ne (tgt := 38) hx hb dX5_ends_31 (by decide) (fun c_6 => ?_) (fun c_6 => ?_)
            · replace hf := pI_f c_6 hf
              refine lv_iconst (v := 0) hx hb dX5_ends_38 (by decide) ?_
              have hz := hf
              subst hz
              exact gRetZ hx hb hr hlocks hK hP hD hS (by decide) rfl rfl dX5_ends_39
            · replace hf := pI_t c_6 hf
              refine lv_iconst (v := 1) hx hb dX5_ends_34 (by decide) ?_
              refine lv_goto (tgt := 39) hx hb dX5_ends_35 (by decide) ?_
              have hz := hf
              subst hz
              exact gRetZ hx hb hr hlocks hK hP hD hS (by decide) rfl rfl dX5_ends_39
theorem ctX5_ends (l : Launch) (D : va_G) (cI : ClassId) (x0 : Int32) (z : Int32) (hz : fX5_ends x0 = z) : CtI l yX5_ends wsX5_ends rmX5_ends D vwCl [(cI, .int)] [.int x0] ([] : va_W) z ([] : va_W) :=
  ctI_of (cc := cX5_ends) (maxL := 1) (ret := (some .boolean)) (by decide) rfl (Nat.le_of_ble_eq_true rfl) (fun p e s m below meth c A ls C hl hP hD hS => wkX5_ends C z _ s.heap [] ls hz hP hD hS hl)
abbrev rmX5_isAlways : Room := { frames := 0, cells := 0, slots := 0, locals := 0 }
set_option maxRecDepth 100000 in
set_option maxHeartbeats 4000000 in
theorem wkX5_isAlways {p : Program} {l : Launch} {e : Env} {s : State} {m : MethodId} {args : Array Value} {below : List Frame} {meth : Method} {c : Code} {D : va_G} {cI : ClassId} {A : Nat → Prop} (C : cxt p s m args meth c cX5_isAlways (some .boolean) 1 RX5 wsX5_isAlways D vwCl [(cI, .int)] A) : ∀ (z : Int32) (x0 : Int32) (H : Heap) (locs : List Loc) (ls : Array Slot), fX5_isAlways x0 = z → va_P D vwCl ([] : va_W) H → va_D A ([] : va_W) → va_S A s.heap H locs → lv_has ls 1 [(0, .int x0)] → W p l e rmX5_isAlways s m args below meth c H locs 0 0 (MQ below (oI D vwCl [(cI, .int)] A z ([] : va_W)) args s 0 0 A) (F0 m 0 ls []) := by
  have C0 := C
  obtain ⟨hx, hb, hr, hml, hown, hts, hlocks, hK, hA⟩ := C
  intro z x0 H locs ls hf hP hD hS hl
  unfold fX5_isAlways at hf
  refine lv_iload_n hx hb dX5_isAlways_0 rfl (lv_at hl 0 rfl) ?_
  refine lv_bipush (v := 15) hx hb dX5_isAlways_1 (by decide) ?_
  refine lv_iand hx hb dX5_isAlways_3 ?_
  refine lv_if_ne (tgt := 11) hx hb dX5_isAlways_4 (by decide) (fun c_1 => ?_) (fun c_1 => ?_)
  · replace hf := pI_f c_1 hf
    refine lv_iconst (v := 0) hx hb dX5_isAlways_11 (by decide) ?_
    have hz := hf
    subst hz
    exact gRetZ hx hb hr hlocks hK hP hD hS (by decide) rfl rfl dX5_isAlways_12
  · replace hf := pI_t c_1 hf
    refine lv_iconst (v := 1) hx hb dX5_isAlways_7 (by decide) ?_
    refine lv_goto (tgt := 12) hx hb dX5_isAlways_8 (by decide) ?_
    have hz := hf
    subst hz
    exact gRetZ hx hb hr hlocks hK hP hD hS (by decide) rfl rfl dX5_isAlways_12
theorem ctX5_isAlways (l : Launch) (D : va_G) (cI : ClassId) (x0 : Int32) (z : Int32) (hz : fX5_isAlways x0 = z) : CtI l yX5_isAlways wsX5_isAlways rmX5_isAlways D vwCl [(cI, .int)] [.int x0] ([] : va_W) z ([] : va_W) :=
  ctI_of (cc := cX5_isAlways) (maxL := 1) (ret := (some .boolean)) (by decide) rfl (Nat.le_of_ble_eq_true rfl) (fun p e s m below meth c A ls C hl hP hD hS => wkX5_isAlways C z _ s.heap [] ls hz hP hD hS hl)
abbrev rmX5_reads : Room := { frames := 1, cells := 0, slots := 0, locals := 20 }
set_option maxRecDepth 100000 in
set_option maxHeartbeats 4000000 in
theorem wkX5_reads {p : Program} {l : Launch} {e : Env} {s : State} {m : MethodId} {args : Array Value} {below : List Frame} {meth : Method} {c : Code} {D : va_G} {cI : ClassId} {A : Nat → Prop} {a0 a1 a2 a3 a4 a5 a6 a7 a8 a9 a10 a11 a12 a13 : Nat} (C : cxt p s m args meth c cX5_reads (some .boolean) 3 RX5 wsX5_reads D vwCl [(cI, .int)] A) : ∀ (z : Int32) (u : TM) (x1 : Int32) (x2 : Int32) (H : Heap) (locs : List Loc) (ls : Array Slot), fX5_reads u x1 x2 = z → va_P D vwCl (wM a0 a1 a2 a3 a4 a5 a6 a7 a8 a9 a10 a11 a12 a13 cI u) H → va_D A (wM a0 a1 a2 a3 a4 a5 a6 a7 a8 a9 a10 a11 a12 a13 cI u) → va_S A s.heap H locs → lv_has ls 3 [(0, .ref a0), (1, .int x1), (2, .int x2)] → W p l e rmX5_reads s m args below meth c H locs 0 0 (MQ below (oI D vwCl [(cI, .int)] A z (wM a0 a1 a2 a3 a4 a5 a6 a7 a8 a9 a10 a11 a12 a13 cI u)) args s 0 0 A) (F0 m 0 ls []) := by
  have C0 := C
  obtain ⟨hx, hb, hr, hml, hown, hts, hlocks, hK, hA⟩ := C
  intro z u x1 x2 H locs ls hf hP hD hS hl
  unfold fX5_reads at hf
  refine lv_iload_n hx hb dX5_reads_0 rfl (lv_at hl 1 rfl) ?_
  refine lv_bipush (v := 8) hx hb dX5_reads_1 (by decide) ?_
  refine lv_icmp_eq (tgt := 31) hx hb dX5_reads_3 (by decide) (fun c_1 => ?_) (fun c_1 => ?_)
  · replace hf := pI_t c_1 hf
    refine lv_iconst (v := 1) hx hb dX5_reads_31 (by decide) ?_
    refine lv_goto (tgt := 36) hx hb dX5_reads_32 (by decide) ?_
    have hz := hf
    subst hz
    exact gRetZ hx hb hr hlocks hK hP hD hS (by decide) rfl rfl dX5_reads_36
  · replace hf := pI_f c_1 hf
    refine lv_iload_n hx hb dX5_reads_6 rfl (lv_at hl 1 rfl) ?_
    refine lv_bipush (v := 15) hx hb dX5_reads_7 (by decide) ?_
    refine lv_icmp_eq (tgt := 31) hx hb dX5_reads_9 (by decide) (fun c_2 => ?_) (fun c_2 => ?_)
    · replace hf := pI_t c_2 hf
      refine lv_iconst (v := 1) hx hb dX5_reads_31 (by decide) ?_
      refine lv_goto (tgt := 36) hx hb dX5_reads_32 (by decide) ?_
      have hz := hf
      subst hz
      exact gRetZ hx hb hr hlocks hK hP hD hS (by decide) rfl rfl dX5_reads_36
    · replace hf := pI_f c_2 hf
      refine lv_iload_n hx hb dX5_reads_12 rfl (lv_at hl 1 rfl) ?_
      refine lv_bipush (v := 16) hx hb dX5_reads_13 (by decide) ?_
      refine lv_icmp_eq (tgt := 31) hx hb dX5_reads_15 (by decide) (fun c_3 => ?_) (fun c_3 => ?_)
      · replace hf := pI_t c_3 hf
        refine lv_iconst (v := 1) hx hb dX5_reads_31 (by decide) ?_
        refine lv_goto (tgt := 36) hx hb dX5_reads_32 (by decide) ?_
        have hz := hf
        subst hz
        exact gRetZ hx hb hr hlocks hK hP hD hS (by decide) rfl rfl dX5_reads_36
      · replace hf := pI_f c_3 hf
        refine lv_iload_n hx hb dX5_reads_18 rfl (lv_at hl 1 rfl) ?_
        refine lv_bipush (v := 23) hx hb dX5_reads_19 (by decide) ?_
        refine lv_icmp_ne (tgt := 35) hx hb dX5_reads_21 (by decide) (fun c_4 => ?_) (fun c_4 => ?_)
        · replace hf := pI_f c_4 hf
          refine lv_iconst (v := 0) hx hb dX5_reads_35 (by decide) ?_
          have hz := hf
          subst hz
          exact gRetZ hx hb hr hlocks hK hP hD hS (by decide) rfl rfl dX5_reads_36
        · replace hf := pI_t c_4 hf
          refine lv_iload_n hx hb dX5_reads_24 rfl (lv_at hl 2 rfl) ?_
          obtain ⟨z_5, hz_5, hf⟩ := pLet_out hf
          refine gI0 (va_runS (As := [.int x2]) (rest := []) ⟨hx, hb, hml, hown, hts⟩ (ctX5_isAlways l D cI x2 z_5 hz_5.symm H.size) (va_cwS 1 hts gX5_reads_X5_isAlways rfl rfl rfl (by decide +kernel) ⟨Nat.le_of_ble_eq_true rfl, Nat.le_of_ble_eq_true rfl⟩) (gPreS hP hK hD [] (by decide) rfl) rfl rfl hl.1 rfl (lv_room (Nat.le_of_ble_eq_true rfl)) dX5_reads_25 ⟨Nat.le_of_ble_eq_true rfl, Nat.le_of_ble_eq_true rfl⟩) hP hD hS hA (fun H locs hP hS => ?_)
          refine lv_if_ne (tgt := 35) hx hb dX5_reads_28 (by decide) (fun c_6 => ?_) (fun c_6 => ?_)
          · replace hf := pI_f c_6 hf
            refine lv_iconst (v := 0) hx hb dX5_reads_35 (by decide) ?_
            have hz := hf
            subst hz
            exact gRetZ hx hb hr hlocks hK hP hD hS (by decide) rfl rfl dX5_reads_36
          · replace hf := pI_t c_6 hf
            refine lv_iconst (v := 1) hx hb dX5_reads_31 (by decide) ?_
            refine lv_goto (tgt := 36) hx hb dX5_reads_32 (by decide) ?_
            have hz := hf
            subst hz
            exact gRetZ hx hb hr hlocks hK hP hD hS (by decide) rfl rfl dX5_reads_36
theorem ctX5_reads (l : Launch) (D : va_G) (cI : ClassId) (a0 a1 a2 a3 a4 a5 a6 a7 a8 a9 a10 a11 a12 a13 : Nat) (u : TM) (x1 : Int32) (x2 : Int32) (z : Int32) (hz : fX5_reads u x1 x2 = z) : CtI l yX5_reads wsX5_reads rmX5_reads D vwCl [(cI, .int)] [.ref a0, .int x1, .int x2] (wM a0 a1 a2 a3 a4 a5 a6 a7 a8 a9 a10 a11 a12 a13 cI u) z (wM a0 a1 a2 a3 a4 a5 a6 a7 a8 a9 a10 a11 a12 a13 cI u) :=
  ctI_of (cc := cX5_reads) (maxL := 3) (ret := (some .boolean)) (by decide) rfl (Nat.le_of_ble_eq_true rfl) (fun p e s m below meth c A ls C hl hP hD hS => wkX5_reads C z _ _ _ s.heap [] ls hz hP hD hS hl)

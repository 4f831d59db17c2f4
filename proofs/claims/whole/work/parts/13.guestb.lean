abbrev rmX2_steer : Room := { frames := 2, cells := 0, slots := 0, locals := 43 }
theorem inX2_steer_X2 : ∀ w ∈ wsX20, w ∈ wsX2_steer := by decide +kernel
set_option maxRecDepth 100000 in
set_option maxHeartbeats 4000000 in
theorem wkX2_steer {p : Program} {l : Launch} {e : Env} {s : State} {m : MethodId} {args : Array Value} {below : List Frame} {meth : Method} {c : Code} {D : va_G} {cI : ClassId} {A : Nat → Prop} {a0 a1 a2 a3 a4 a5 : Nat} (C : cxt p s m args meth c cX2_steer none 3 RX2 wsX2_steer D vwCl [(cI, .int)] A) : ∀ (z : TG) (u : TG) (x1 : Int32) (x2 : Int32) (H : Heap) (locs : List Loc) (ls : Array Slot), fX2_steer u x1 x2 = some z → va_P D vwCl (wG a0 a1 a2 a3 a4 a5 cI u) H → va_D A (wG a0 a1 a2 a3 a4 a5 cI u) → va_S A s.heap H locs → lv_has ls 3 [(0, .ref a0), (1, .int x1), (2, .int x2)] → W p l e rmX2_steer s m args below meth c H locs 0 0 (MQ below (oV D vwCl [(cI, .int)] A (wG a0 a1 a2 a3 a4 a5 cI z)) args s 0 0 A) (F0 m 0 ls []) := by
  have C0 := C
  obtain ⟨hx, hb, hr, hml, hown, hts, hlocks, hK, hA⟩ := C
  intro z u x1 x2 H locs ls hf hP hD hS hl
  unfold fX2_steer at hf
  refine lv_iload_n hx hb dX2_steer_0 rfl (lv_at hl 1 rfl) ?_
  by_cases c_3 : x1 = 4
  · replace hf := pI_t c_3 hf
    refine lv_lookup (tgt := 60) (off := 59) hx hb dX2_steer_1 (by decide) (by rw [c_3]; decide) (by decide) ?_
    refine lv_aload_n hx hb dX2_steer_60 rfl (lv_at hl 0 rfl) ?_
    refine va_get (D := D) (ci := 1) (v := .ref a1) (C := RX2) (T := TX2) (N := 6) hx hb hts inX2_steer_X2 hown hK hP 0 rfl rfl 0 (by decide) (hts (.fieldLink RX2 9 "BlockCache$Guest" "state" "[I") (by decide +kernel)) (fun _ h9 => h9) rfl dX2_steer_61 ?_
    refine lv_bipush (v := 8) hx hb dX2_steer_64 (by decide) ?_
    refine lv_iconst (v := 1) hx hb dX2_steer_66 (by decide) ?_
    obtain ⟨h_1, hf⟩ := pIn_out hf
    refine va_iast hx hb hK hP hD hS 1 0 rfl rfl h_1 dX2_steer_67 (fun H locs hP hD hS => ?_)
    obtain ⟨u_2, eu_2, hf⟩ := pLet_out hf
    replace hP : va_P D vwCl (wG a0 a1 a2 a3 a4 a5 cI u_2) H := by rw [eu_2]; exact hP
    replace hD : va_D A (wG a0 a1 a2 a3 a4 a5 cI u_2) := by rw [eu_2]; exact hD
    refine lv_goto (tgt := 154) hx hb dX2_steer_68 (by decide) ?_
    have hz := Option.some.inj hf
    subst hz
    exact gRetV hx hb hr hlocks hK hP hD hS rfl dX2_steer_154
  · replace hf := pI_f c_3 hf
    by_cases c_7 : x1 = 23
    · replace hf := pI_t c_7 hf
      refine lv_lookup (tgt := 71) (off := 70) hx hb dX2_steer_1 (by decide) (by rw [c_7]; decide) (by decide) ?_
      refine lv_aload_n hx hb dX2_steer_71 rfl (lv_at hl 0 rfl) ?_
      refine va_get (D := D) (ci := 1) (v := .ref a1) (C := RX2) (T := TX2) (N := 6) hx hb hts inX2_steer_X2 hown hK hP 0 rfl rfl 0 (by decide) (hts (.fieldLink RX2 9 "BlockCache$Guest" "state" "[I") (by decide +kernel)) (fun _ h9 => h9) rfl dX2_steer_72 ?_
      refine lv_bipush (v := 9) hx hb dX2_steer_75 (by decide) ?_
      refine lv_iload_n hx hb dX2_steer_77 rfl (lv_at hl 2 rfl) ?_
      obtain ⟨z_4, hz_4, hf⟩ := pLet_out hf
      refine gI0 (va_runS (As := [.int x2]) (rest := [.int 9, .ref a1]) ⟨hx, hb, hml, hown, hts⟩ (ctX1_n l D cI x2 z_4 hz_4.symm H.size) (va_cwS 1 hts gX2_steer_X1_n rfl rfl rfl (by decide +kernel) ⟨Nat.le_of_ble_eq_true rfl, Nat.le_of_ble_eq_true rfl⟩) (gPreS hP hK hD [] (by decide) rfl) rfl rfl hl.1 rfl (lv_room (Nat.le_of_ble_eq_true rfl)) dX2_steer_78 ⟨Nat.le_of_ble_eq_true rfl, Nat.le_of_ble_eq_true rfl⟩) hP hD hS hA (fun H locs hP hS => ?_)
      obtain ⟨h_5, hf⟩ := pIn_out hf
      refine va_iast hx hb hK hP hD hS 1 0 rfl rfl h_5 dX2_steer_81 (fun H locs hP hD hS => ?_)
      obtain ⟨u_6, eu_6, hf⟩ := pLet_out hf
      replace hP : va_P D vwCl (wG a0 a1 a2 a3 a4 a5 cI u_6) H := by rw [eu_6]; exact hP
      replace hD : va_D A (wG a0 a1 a2 a3 a4 a5 cI u_6) := by rw [eu_6]; exact hD
      refine lv_goto (tgt := 154) hx hb dX2_steer_82 (by decide) ?_
      have hz := Option.some.inj hf
      subst hz
      exact gRetV hx hb hr hlocks hK hP hD hS rfl dX2_steer_154
    · replace hf := pI_f c_7 hf
      by_cases c_11 : x1 = 24
      · replace hf := pI_t c_11 hf
        refine lv_lookup (tgt := 85) (off := 84) hx hb dX2_steer_1 (by decide) (by rw [c_11]; decide) (by decide) ?_
        refine lv_aload_n hx hb dX2_steer_85 rfl (lv_at hl 0 rfl) ?_
        refine lv_iload_n hx hb dX2_steer_86 rfl (lv_at hl 2 rfl) ?_
        obtain ⟨z_8, hz_8, hf⟩ := pLet_out hf
        refine gI0 (va_runS (As := [.int x2]) (rest := [.ref a0]) ⟨hx, hb, hml, hown, hts⟩ (ctX1_w l D cI x2 z_8 hz_8.symm H.size) (va_cwS 1 hts gX2_steer_X1_w rfl rfl rfl (by decide +kernel) ⟨Nat.le_of_ble_eq_true rfl, Nat.le_of_ble_eq_true rfl⟩) (gPreS hP hK hD [] (by decide) rfl) rfl rfl hl.1 rfl (lv_room (Nat.le_of_ble_eq_true rfl)) dX2_steer_87 ⟨Nat.le_of_ble_eq_true rfl, Nat.le_of_ble_eq_true rfl⟩) hP hD hS hA (fun H locs hP hS => ?_)
        refine lv_iload_n hx hb dX2_steer_90 rfl (lv_at hl 2 rfl) ?_
        obtain ⟨z_9, hz_9, hf⟩ := pLet_out hf
        refine gI0 (va_runS (As := [.int x2]) (rest := [.int z_8, .ref a0]) ⟨hx, hb, hml, hown, hts⟩ (ctX1_n l D cI x2 z_9 hz_9.symm H.size) (va_cwS 1 hts gX2_steer_X1_n rfl rfl rfl (by decide +kernel) ⟨Nat.le_of_ble_eq_true rfl, Nat.le_of_ble_eq_true rfl⟩) (gPreS hP hK hD [] (by decide) rfl) rfl rfl hl.1 rfl (lv_room (Nat.le_of_ble_eq_true rfl)) dX2_steer_91 ⟨Nat.le_of_ble_eq_true rfl, Nat.le_of_ble_eq_true rfl⟩) hP hD hS hA (fun H locs hP hS => ?_)
        obtain ⟨z_10, hz_10, hf⟩ := pB_out hf
        refine gV (w' := (wG a0 a1 a2 a3 a4 a5 cI z_10)) (va_runV (As := [.int z_8, .int z_9]) (rest := []) ⟨hx, hb, hml, hown, hts⟩ (ctX2_jumpIf l D cI a0 a1 a2 a3 a4 a5 u z_8 z_9 z_10 hz_10 H.size) (cwV 2 hts gX2_steer_X2_jumpIf rfl rfl rfl (by decide +kernel) ⟨Nat.le_of_ble_eq_true rfl, Nat.le_of_ble_eq_true rfl⟩) (gPreV (ci := 1) (C := RX2) (T := TX2) (N := 6) hP hK hD [0, 1, 2, 3, 4, 5] (by decide) rfl 0 rfl rfl) rfl rfl hl.1 rfl (lv_room (Nat.le_of_ble_eq_true rfl)) dX2_steer_94 ⟨Nat.le_of_ble_eq_true rfl, Nat.le_of_ble_eq_true rfl⟩) hP hD hS hA [0, 1, 2, 3, 4, 5] [] [0, 1, 2, 3, 4, 5] rfl rfl (by decide) (by decide) rfl (by decide) (fun H locs hP hD hS => ?_)
        refine lv_goto (tgt := 154) hx hb dX2_steer_97 (by decide) ?_
        have hz := Option.some.inj hf
        subst hz
        exact gRetV hx hb hr hlocks hK hP hD hS rfl dX2_steer_154
      · replace hf := pI_f c_11 hf
        by_cases c_17 : x1 = 25
        · replace hf := pI_t c_17 hf
          refine lv_lookup (tgt := 100) (off := 99) hx hb dX2_steer_1 (by decide) (by rw [c_17]; decide) (by decide) ?_
          refine lv_aload_n hx hb dX2_steer_100 rfl (lv_at hl 0 rfl) ?_
          refine lv_aload_n hx hb dX2_steer_101 rfl (lv_at hl 0 rfl) ?_
          refine va_get (D := D) (ci := 1) (v := .ref a1) (C := RX2) (T := TX2) (N := 6) hx hb hts inX2_steer_X2 hown hK hP 0 rfl rfl 0 (by decide) (hts (.fieldLink RX2 9 "BlockCache$Guest" "state" "[I") (by decide +kernel)) (fun _ h9 => h9) rfl dX2_steer_102 ?_
          refine lv_bipush (v := 9) hx hb dX2_steer_105 (by decide) ?_
          obtain ⟨h_12, hf⟩ := pIn_out hf
          refine va_iald hx hb hK hP 1 0 rfl rfl h_12 dX2_steer_107 ?_
          obtain ⟨z_13, hz_13, hf⟩ := pB_out hf
          refine gV (w' := (wG a0 a1 a2 a3 a4 a5 cI z_13)) (va_runV (As := [.int ((gG_state u) ((9 : Int32)).toNatClampNeg)]) (rest := []) ⟨hx, hb, hml, hown, hts⟩ (ctX2_push l D cI a0 a1 a2 a3 a4 a5 u ((gG_state u) ((9 : Int32)).toNatClampNeg) z_13 hz_13 H.size) (cwV 1 hts gX2_steer_X2_push rfl rfl rfl (by decide +kernel) ⟨Nat.le_of_ble_eq_true rfl, Nat.le_of_ble_eq_true rfl⟩) (gPreV (ci := 1) (C := RX2) (T := TX2) (N := 6) hP hK hD [0, 1, 2, 3, 4, 5] (by decide) rfl 0 rfl rfl) rfl rfl hl.1 rfl (lv_room (Nat.le_of_ble_eq_true rfl)) dX2_steer_108 ⟨Nat.le_of_ble_eq_true rfl, Nat.le_of_ble_eq_true rfl⟩) hP hD hS hA [0, 1, 2, 3, 4, 5] [] [0, 1, 2, 3, 4, 5] rfl rfl (by decide) (by decide) rfl (by decide) (fun H locs hP hD hS => ?_)
          refine lv_aload_n hx hb dX2_steer_111 rfl (lv_at hl 0 rfl) ?_
          refine va_get (D := D) (ci := 1) (v := .ref a1) (C := RX2) (T := TX2) (N := 6) hx hb hts inX2_steer_X2 hown hK hP 0 rfl rfl 0 (by decide) (hts (.fieldLink RX2 9 "BlockCache$Guest" "state" "[I") (by decide +kernel)) (fun _ h9 => h9) rfl dX2_steer_112 ?_
          refine lv_bipush (v := 9) hx hb dX2_steer_115 (by decide) ?_
          refine lv_iload_n hx hb dX2_steer_117 rfl (lv_at hl 2 rfl) ?_
          obtain ⟨z_14, hz_14, hf⟩ := pLet_out hf
          refine gI0 (va_runS (As := [.int x2]) (rest := [.int 9, .ref a1]) ⟨hx, hb, hml, hown, hts⟩ (ctX1_n l D cI x2 z_14 hz_14.symm H.size) (va_cwS 1 hts gX2_steer_X1_n rfl rfl rfl (by decide +kernel) ⟨Nat.le_of_ble_eq_true rfl, Nat.le_of_ble_eq_true rfl⟩) (gPreS hP hK hD [] (by decide) rfl) rfl rfl hl.1 rfl (lv_room (Nat.le_of_ble_eq_true rfl)) dX2_steer_118 ⟨Nat.le_of_ble_eq_true rfl, Nat.le_of_ble_eq_true rfl⟩) hP hD hS hA (fun H locs hP hS => ?_)
          obtain ⟨h_15, hf⟩ := pIn_out hf
          refine va_iast hx hb hK hP hD hS 1 0 rfl rfl h_15 dX2_steer_121 (fun H locs hP hD hS => ?_)
          obtain ⟨u_16, eu_16, hf⟩ := pLet_out hf
          replace hP : va_P D vwCl (wG a0 a1 a2 a3 a4 a5 cI u_16) H := by rw [eu_16]; exact hP
          replace hD : va_D A (wG a0 a1 a2 a3 a4 a5 cI u_16) := by rw [eu_16]; exact hD
          refine lv_goto (tgt := 154) hx hb dX2_steer_122 (by decide) ?_
          have hz := Option.some.inj hf
          subst hz
          exact gRetV hx hb hr hlocks hK hP hD hS rfl dX2_steer_154
        · replace hf := pI_f c_17 hf
          by_cases c_21 : x1 = 26
          · replace hf := pI_t c_21 hf
            refine lv_lookup (tgt := 125) (off := 124) hx hb dX2_steer_1 (by decide) (by rw [c_21]; decide) (by decide) ?_
            refine lv_aload_n hx hb dX2_steer_125 rfl (lv_at hl 0 rfl) ?_
            refine va_get (D := D) (ci := 1) (v := .ref a1) (C := RX2) (T := TX2) (N := 6) hx hb hts inX2_steer_X2 hown hK hP 0 rfl rfl 0 (by decide) (hts (.fieldLink RX2 9 "BlockCache$Guest" "state" "[I") (by decide +kernel)) (fun _ h9 => h9) rfl dX2_steer_126 ?_
            refine lv_bipush (v := 9) hx hb dX2_steer_129 (by decide) ?_
            refine lv_aload_n hx hb dX2_steer_131 rfl (lv_at hl 0 rfl) ?_
            obtain ⟨z_18, hz_18, hf⟩ := pB_out hf
            refine gI (w' := (wG a0 a1 a2 a3 a4 a5 cI z_18.2)) (va_runV (As := []) (rest := [.int 9, .ref a1]) ⟨hx, hb, hml, hown, hts⟩ (ctX2_pop l D cI a0 a1 a2 a3 a4 a5 u z_18 hz_18 H.size) (cwV 0 hts gX2_steer_X2_pop rfl rfl rfl (by decide +kernel) ⟨Nat.le_of_ble_eq_true rfl, Nat.le_of_ble_eq_true rfl⟩) (gPreV (ci := 1) (C := RX2) (T := TX2) (N := 6) hP hK hD [0, 1, 2, 3, 4, 5] (by decide) rfl 0 rfl rfl) rfl rfl hl.1 rfl (lv_room (Nat.le_of_ble_eq_true rfl)) dX2_steer_132 ⟨Nat.le_of_ble_eq_true rfl, Nat.le_of_ble_eq_true rfl⟩) hP hD hS hA [0, 1, 2, 3, 4, 5] [] [0, 1, 2, 3, 4, 5] rfl rfl (by decide) (by decide) rfl (by decide) (fun H locs hP hD hS => ?_)
            obtain ⟨h_19, hf⟩ := pIn_out hf
            refine va_iast hx hb hK hP hD hS 1 0 rfl rfl h_19 dX2_steer_135 (fun H locs hP hD hS => ?_)
            obtain ⟨u_20, eu_20, hf⟩ := pLet_out hf
            replace hP : va_P D vwCl (wG a0 a1 a2 a3 a4 a5 cI u_20) H := by rw [eu_20]; exact hP
            replace hD : va_D A (wG a0 a1 a2 a3 a4 a5 cI u_20) := by rw [eu_20]; exact hD
            refine lv_goto (tgt := 154) hx hb dX2_steer_136 (by decide) ?_
            have hz := Option.some.inj hf
            subst hz
            exact gRetV hx hb hr hlocks hK hP hD hS rfl dX2_steer_154
          · replace hf := pI_f c_21 hf
            by_cases c_25 : x1 = 29
            · replace hf := pI_t c_25 hf
              refine lv_lookup (tgt := 139) (off := 138) hx hb dX2_steer_1 (by decide) (by rw [c_25]; decide) (by decide) ?_
              refine lv_aload_n hx hb dX2_steer_139 rfl (lv_at hl 0 rfl) ?_
              refine lv_iload_n hx hb dX2_steer_140 rfl (lv_at hl 2 rfl) ?_
              obtain ⟨z_22, hz_22, hf⟩ := pLet_out hf
              refine gI0 (va_runS (As := [.int x2]) (rest := [.ref a0]) ⟨hx, hb, hml, hown, hts⟩ (ctX1_d l D cI x2 z_22 hz_22.symm H.size) (va_cwS 1 hts gX2_steer_X1_d rfl rfl rfl (by decide +kernel) ⟨Nat.le_of_ble_eq_true rfl, Nat.le_of_ble_eq_true rfl⟩) (gPreS hP hK hD [] (by decide) rfl) rfl rfl hl.1 rfl (lv_room (Nat.le_of_ble_eq_true rfl)) dX2_steer_141 ⟨Nat.le_of_ble_eq_true rfl, Nat.le_of_ble_eq_true rfl⟩) hP hD hS hA (fun H locs hP hS => ?_)
              refine lv_iload_n hx hb dX2_steer_144 rfl (lv_at hl 2 rfl) ?_
              obtain ⟨z_23, hz_23, hf⟩ := pLet_out hf
              refine gI0 (va_runS (As := [.int x2]) (rest := [.int z_22, .ref a0]) ⟨hx, hb, hml, hown, hts⟩ (ctX1_n l D cI x2 z_23 hz_23.symm H.size) (va_cwS 1 hts gX2_steer_X1_n rfl rfl rfl (by decide +kernel) ⟨Nat.le_of_ble_eq_true rfl, Nat.le_of_ble_eq_true rfl⟩) (gPreS hP hK hD [] (by decide) rfl) rfl rfl hl.1 rfl (lv_room (Nat.le_of_ble_eq_true rfl)) dX2_steer_145 ⟨Nat.le_of_ble_eq_true rfl, Nat.le_of_ble_eq_true rfl⟩) hP hD hS hA (fun H locs hP hS => ?_)
              obtain ⟨z_24, hz_24, hf⟩ := pB_out hf
              refine gV (w' := (wG a0 a1 a2 a3 a4 a5 cI z_24)) (va_runV (As := [.int z_22, .int z_23]) (rest := []) ⟨hx, hb, hml, hown, hts⟩ (ctX2_countDown l D cI a0 a1 a2 a3 a4 a5 u z_22 z_23 z_24 hz_24 H.size) (cwV 2 hts gX2_steer_X2_countDown rfl rfl rfl (by decide +kernel) ⟨Nat.le_of_ble_eq_true rfl, Nat.le_of_ble_eq_true rfl⟩) (gPreV (ci := 1) (C := RX2) (T := TX2) (N := 6) hP hK hD [0, 1, 2, 3, 4, 5] (by decide) rfl 0 rfl rfl) rfl rfl hl.1 rfl (lv_room (Nat.le_of_ble_eq_true rfl)) dX2_steer_148 ⟨Nat.le_of_ble_eq_true rfl, Nat.le_of_ble_eq_true rfl⟩) hP hD hS hA [0, 1, 2, 3, 4, 5] [] [0, 1, 2, 3, 4, 5] rfl rfl (by decide) (by decide) rfl (by decide) (fun H locs hP hD hS => ?_)
              refine lv_goto (tgt := 154) hx hb dX2_steer_151 (by decide) ?_
              have hz := Option.some.inj hf
              subst hz
              exact gRetV hx hb hr hlocks hK hP hD hS rfl dX2_steer_154
            · replace hf := pI_f c_25 hf
              refine lv_lookup (tgt := 154) (off := 153) hx hb dX2_steer_1 (by decide) (by first | (rw [lv_osw c_3 (a := 4) (by decide), lv_osw c_7 (a := 23) (by decide), lv_osw c_11 (a := 24) (by decide), lv_osw c_17 (a := 25) (by decide), lv_osw c_21 (a := 26) (by decide), lv_osw c_25 (a := 29) (by decide)]; rfl) | (simp only [Array.toList]; rw [lv_osw c_3 (a := 4) (by decide), lv_osw c_7 (a := 23) (by decide), lv_osw c_11 (a := 24) (by decide), lv_osw c_17 (a := 25) (by decide), lv_osw c_21 (a := 26) (by decide), lv_osw c_25 (a := 29) (by decide)]; rfl)) (by decide) ?_
              have hz := Option.some.inj hf
              subst hz
              exact gRetV hx hb hr hlocks hK hP hD hS rfl dX2_steer_154
theorem ctX2_steer (l : Launch) (D : va_G) (cI : ClassId) (a0 a1 a2 a3 a4 a5 : Nat) (u : TG) (x1 : Int32) (x2 : Int32) (z : TG) (hz : fX2_steer u x1 x2 = some z) : CtV l yX2_steer wsX2_steer rmX2_steer D vwCl [(cI, .int)] [.ref a0, .int x1, .int x2] (wG a0 a1 a2 a3 a4 a5 cI u) (wG a0 a1 a2 a3 a4 a5 cI z) :=
  ctV_of (cc := cX2_steer) (maxL := 3) (ret := none) (by decide) rfl (Nat.le_of_ble_eq_true rfl) (fun p e s m below meth c A ls C hl hP hD hS => wkX2_steer C z _ _ _ s.heap [] ls hz hP hD hS hl)
abbrev rmX2_give : Room := { frames := 0, cells := 0, slots := 0, locals := 0 }
theorem inX2_give_X2 : ∀ w ∈ wsX20, w ∈ wsX2_give := by decide +kernel
set_option maxRecDepth 100000 in
set_option maxHeartbeats 4000000 in
theorem wkX2_give_b26 {p : Program} {l : Launch} {e : Env} {s : State} {m : MethodId} {args : Array Value} {below : List Frame} {meth : Method} {c : Code} {D : va_G} {cI : ClassId} {A : Nat → Prop} {a0 a1 a2 a3 a4 a5 : Nat} (C : cxt p s m args meth c cX2_give none 2 RX2 wsX2_give D vwCl [(cI, .int)] A) : ∀ (z : TG) (u : TG) (H : Heap) (locs : List Loc) (ls : Array Slot), fX2_give_b26 u = some z → va_P D vwCl (wG a0 a1 a2 a3 a4 a5 cI u) H → va_D A (wG a0 a1 a2 a3 a4 a5 cI u) → va_S A s.heap H locs → lv_has ls 2 [(0, .ref a0)] → W p l e rmX2_give s m args below meth c H locs 0 0 (MQ below (oV D vwCl [(cI, .int)] A (wG a0 a1 a2 a3 a4 a5 cI z)) args s 0 0 A) (F0 m 26 ls []) := by
  have C0 := C
  obtain ⟨hx, hb, hr, hml, hown, hts, hlocks, hK, hA⟩ := C
  intro z u H locs ls hf hP hD hS hl
  unfold fX2_give_b26 at hf
  refine lv_aload_n hx hb dX2_give_26 rfl (lv_at hl 0 rfl) ?_
  refine lv_dup hx hb dX2_give_27 rfl ?_
  refine va_get (D := D) (ci := 1) (v := .int (gG_given u)) (C := RX2) (T := TX2) (N := 6) hx hb hts inX2_give_X2 hown hK hP 0 rfl rfl 4 (by decide) (hts (.fieldLink RX2 34 "BlockCache$Guest" "given" "I") (by decide +kernel)) (fun _ h9 => h9) rfl dX2_give_28 ?_
  refine lv_iconst (v := 1) hx hb dX2_give_31 (by decide) ?_
  refine lv_iadd hx hb dX2_give_32 ?_
  refine va_put (D := D) (ci := 1) (v := .int ((gG_given u) + 1)) (ty := .int) (C := RX2) (T := TX2) (N := 6) hx hb hts inX2_give_X2 tyX2 tyX2_ok nmX2 hown hK hP hD hS 0 rfl rfl 4 (by decide) (hts (.fieldLink RX2 34 "BlockCache$Guest" "given" "I") (by decide +kernel)) (fun _ h9 => h9) rfl (by decide +kernel) rfl rfl (Nat.le_of_ble_eq_true rfl) dX2_give_33 (fun H locs hP hD hS => ?_)
  obtain ⟨u_1, eu_1, hf⟩ := pLet_out hf
  replace hP : va_P D vwCl (wG a0 a1 a2 a3 a4 a5 cI u_1) H := by rw [eu_1]; exact hP
  replace hD : va_D A (wG a0 a1 a2 a3 a4 a5 cI u_1) := by rw [eu_1]; exact hD
  have hz := Option.some.inj hf
  subst hz
  exact gRetV hx hb hr hlocks hK hP hD hS rfl dX2_give_36
set_option maxRecDepth 100000 in
set_option maxHeartbeats 4000000 in
theorem wkX2_give {p : Program} {l : Launch} {e : Env} {s : State} {m : MethodId} {args : Array Value} {below : List Frame} {meth : Method} {c : Code} {D : va_G} {cI : ClassId} {A : Nat → Prop} {a0 a1 a2 a3 a4 a5 : Nat} (C : cxt p s m args meth c cX2_give none 2 RX2 wsX2_give D vwCl [(cI, .int)] A) : ∀ (z : TG) (u : TG) (x1 : Int32) (H : Heap) (locs : List Loc) (ls : Array Slot), fX2_give u x1 = some z → va_P D vwCl (wG a0 a1 a2 a3 a4 a5 cI u) H → va_D A (wG a0 a1 a2 a3 a4 a5 cI u) → va_S A s.heap H locs → lv_has ls 2 [(0, .ref a0), (1, .int x1)] → W p l e rmX2_give s m args below meth c H locs 0 0 (MQ below (oV D vwCl [(cI, .int)] A (wG a0 a1 a2 a3 a4 a5 cI z)) args s 0 0 A) (F0 m 0 ls []) := by
  have C0 := C
  obtain ⟨hx, hb, hr, hml, hown, hts, hlocks, hK, hA⟩ := C
  intro z u x1 H locs ls hf hP hD hS hl
  unfold fX2_give at hf
  refine lv_aload_n hx hb dX2_give_0 rfl (lv_at hl 0 rfl) ?_
  refine va_get (D := D) (ci := 1) (v := .int (gG_given u)) (C := RX2) (T := TX2) (N := 6) hx hb hts inX2_give_X2 hown hK hP 0 rfl rfl 4 (by decide) (hts (.fieldLink RX2 34 "BlockCache$Guest" "given" "I") (by decide +kernel)) (fun _ h9 => h9) rfl dX2_give_1 ?_
  refine lv_if_lt (tgt := 26) hx hb dX2_give_4 (by decide) (fun c_1 => ?_) (fun c_1 => ?_)
  · replace hf := pI_t c_1 hf
    exact wkX2_give_b26 C0 _ _ H locs ls hf hP hD hS (lv_sub hl [0] rfl)
  · replace hf := pI_f c_1 hf
    refine lv_aload_n hx hb dX2_give_7 rfl (lv_at hl 0 rfl) ?_
    refine va_get (D := D) (ci := 1) (v := .int (gG_given u)) (C := RX2) (T := TX2) (N := 6) hx hb hts inX2_give_X2 hown hK hP 0 rfl rfl 4 (by decide) (hts (.fieldLink RX2 34 "BlockCache$Guest" "given" "I") (by decide +kernel)) (fun _ h9 => h9) rfl dX2_give_8 ?_
    refine lv_bipush (v := 100) hx hb dX2_give_11 (by decide) ?_
    refine lv_icmp_ge (tgt := 26) hx hb dX2_give_13 (by decide) (fun c_2 => ?_) (fun c_2 => ?_)
    · replace hf := pI_t c_2 hf
      exact wkX2_give_b26 C0 _ _ H locs ls hf hP hD hS (lv_sub hl [0] rfl)
    · replace hf := pI_f c_2 hf
      refine lv_aload_n hx hb dX2_give_16 rfl (lv_at hl 0 rfl) ?_
      refine va_get (D := D) (ci := 1) (v := .ref a5) (C := RX2) (T := TX2) (N := 6) hx hb hts inX2_give_X2 hown hK hP 0 rfl rfl 3 (by decide) (hts (.fieldLink RX2 27 "BlockCache$Guest" "outputs" "[I") (by decide +kernel)) (fun _ h9 => h9) rfl dX2_give_17 ?_
      refine lv_aload_n hx hb dX2_give_20 rfl (lv_at hl 0 rfl) ?_
      refine va_get (D := D) (ci := 1) (v := .int (gG_given u)) (C := RX2) (T := TX2) (N := 6) hx hb hts inX2_give_X2 hown hK hP 0 rfl rfl 4 (by decide) (hts (.fieldLink RX2 34 "BlockCache$Guest" "given" "I") (by decide +kernel)) (fun _ h9 => h9) rfl dX2_give_21 ?_
      refine lv_iload_n hx hb dX2_give_24 rfl (lv_at hl 1 rfl) ?_
      obtain ⟨h_3, hf⟩ := pIn_out hf
      refine va_iast hx hb hK hP hD hS 5 0 rfl rfl h_3 dX2_give_25 (fun H locs hP hD hS => ?_)
      obtain ⟨u_4, eu_4, hf⟩ := pLet_out hf
      replace hP : va_P D vwCl (wG a0 a1 a2 a3 a4 a5 cI u_4) H := by rw [eu_4]; exact hP
      replace hD : va_D A (wG a0 a1 a2 a3 a4 a5 cI u_4) := by rw [eu_4]; exact hD
      exact wkX2_give_b26 C0 _ _ H locs ls hf hP hD hS (lv_sub hl [0] rfl)
theorem ctX2_give (l : Launch) (D : va_G) (cI : ClassId) (a0 a1 a2 a3 a4 a5 : Nat) (u : TG) (x1 : Int32) (z : TG) (hz : fX2_give u x1 = some z) : CtV l yX2_give wsX2_give rmX2_give D vwCl [(cI, .int)] [.ref a0, .int x1] (wG a0 a1 a2 a3 a4 a5 cI u) (wG a0 a1 a2 a3 a4 a5 cI z) :=
  ctV_of (cc := cX2_give) (maxL := 2) (ret := none) (by decide) rfl (Nat.le_of_ble_eq_true rfl) (fun p e s m below meth c A ls C hl hP hD hS => wkX2_give C z _ _ s.heap [] ls hz hP hD hS hl)
abbrev rmX2_move : Room := { frames := 2, cells := 0, slots := 0, locals := 43 }
theorem inX2_move_X2 : ∀ w ∈ wsX20, w ∈ wsX2_move := by decide +kernel
theorem inX2_move_X3 : ∀ w ∈ wsX30, w ∈ wsX2_move := by decide +kernel
set_option maxRecDepth 100000 in
set_option maxHeartbeats 4000000 in
theorem wkX2_move_b187 {p : Program} {l : Launch} {e : Env} {s : State} {m : MethodId} {args : Array Value} {below : List Frame} {meth : Method} {c : Code} {D : va_G} {cI : ClassId} {A : Nat → Prop} {a0 a1 a2 a3 a4 a5 : Nat} (C : cxt p s m args meth c cX2_move none 5 RX2 wsX2_move D vwCl [(cI, .int)] A) : ∀ (z : TG) (u : TG) (y0 : Int32) (y1 : Int32) (H : Heap) (locs : List Loc) (ls : Array Slot), fX2_move_b187 u y0 y1 = some z → va_P D vwCl (wG a0 a1 a2 a3 a4 a5 cI u) H → va_D A (wG a0 a1 a2 a3 a4 a5 cI u) → va_S A s.heap H locs → lv_has ls 5 [] → W p l e rmX2_move s m args below meth c H locs 0 0 (MQ below (oV D vwCl [(cI, .int)] A (wG a0 a1 a2 a3 a4 a5 cI z)) args s 0 0 A) (F0 m 187 ls [.int y0, .int y1, .ref a1]) := by
  have C0 := C
  obtain ⟨hx, hb, hr, hml, hown, hts, hlocks, hK, hA⟩ := C
  intro z u y0 y1 H locs ls hf hP hD hS hl
  unfold fX2_move_b187 at hf
  obtain ⟨h_1, hf⟩ := pIn_out hf
  refine va_iast hx hb hK hP hD hS 1 0 rfl rfl h_1 dX2_move_187 (fun H locs hP hD hS => ?_)
  obtain ⟨u_2, eu_2, hf⟩ := pLet_out hf
  replace hP : va_P D vwCl (wG a0 a1 a2 a3 a4 a5 cI u_2) H := by rw [eu_2]; exact hP
  replace hD : va_D A (wG a0 a1 a2 a3 a4 a5 cI u_2) := by rw [eu_2]; exact hD
  refine lv_goto (tgt := 290) hx hb dX2_move_188 (by decide) ?_
  have hz := Option.some.inj hf
  subst hz
  exact gRetV hx hb hr hlocks hK hP hD hS rfl dX2_move_290
set_option maxRecDepth 100000 in
set_option maxHeartbeats 4000000 in
theorem wkX2_move {p : Program} {l : Launch} {e : Env} {s : State} {m : MethodId} {args : Array Value} {below : List Frame} {meth : Method} {c : Code} {D : va_G} {cI : ClassId} {A : Nat → Prop} {a0 a1 a2 a3 a4 a5 : Nat} (C : cxt p s m args meth c cX2_move none 5 RX2 wsX2_move D vwCl [(cI, .int)] A) : ∀ (z : TG) (u : TG) (x1 : Int32) (x2 : Int32) (H : Heap) (locs : List Loc) (ls : Array Slot), fX2_move u x1 x2 = some z → va_P D vwCl (wG a0 a1 a2 a3 a4 a5 cI u) H → va_D A (wG a0 a1 a2 a3 a4 a5 cI u) → va_S A s.heap H locs → lv_has ls 5 [(0, .ref a0), (1, .int x1), (2, .int x2)] → W p l e rmX2_move s m args below meth c H locs 0 0 (MQ below (oV D vwCl [(cI, .int)] A (wG a0 a1 a2 a3 a4 a5 cI z)) args s 0 0 A) (F0 m 0 ls []) := by
  have C0 := C
  obtain ⟨hx, hb, hr, hml, hown, hts, hlocks, hK, hA⟩ := C
  intro z u x1 x2 H locs ls hf hP hD hS hl
  unfold fX2_move at hf
  refine lv_iload_n hx hb dX2_move_0 rfl (lv_at hl 2 rfl) ?_
  obtain ⟨z_1, hz_1, hf⟩ := pLet_out hf
  refine gI0 (va_runS (As := [.int x2]) (rest := []) ⟨hx, hb, hml, hown, hts⟩ (ctX1_d l D cI x2 z_1 hz_1.symm H.size) (va_cwS 1 hts gX2_move_X1_d rfl rfl rfl (by decide +kernel) ⟨Nat.le_of_ble_eq_true rfl, Nat.le_of_ble_eq_true rfl⟩) (gPreS hP hK hD [] (by decide) rfl) rfl rfl hl.1 rfl (lv_room (Nat.le_of_ble_eq_true rfl)) dX2_move_1 ⟨Nat.le_of_ble_eq_true rfl, Nat.le_of_ble_eq_true rfl⟩) hP hD hS hA (fun H locs hP hS => ?_)
  refine lv_istore_n (lv' := [(3, .int z_1), (0, .ref a0), (1, .int x1), (2, .int x2)]) hx hb dX2_move_4 rfl hl (by decide) rfl (fun ls hl => ?_)
  refine lv_aload_n hx hb dX2_move_5 rfl (lv_at hl 1 rfl) ?_
  refine va_get (D := D) (ci := 1) (v := .ref a1) (C := RX2) (T := TX2) (N := 6) hx hb hts inX2_move_X2 hown hK hP 0 rfl rfl 0 (by decide) (hts (.fieldLink RX2 9 "BlockCache$Guest" "state" "[I") (by decide +kernel)) (fun _ h9 => h9) rfl dX2_move_6 ?_
  refine lv_iload_n hx hb dX2_move_9 rfl (lv_at hl 3 rfl) ?_
  obtain ⟨z_2, hz_2, hf⟩ := pLet_out hf
  refine gI0 (va_runS (As := [.int x2]) (rest := [.ref a1]) ⟨hx, hb, hml, hown, hts⟩ (ctX1_s l D cI x2 z_2 hz_2.symm H.size) (va_cwS 1 hts gX2_move_X1_s rfl rfl rfl (by decide +kernel) ⟨Nat.le_of_ble_eq_true rfl, Nat.le_of_ble_eq_true rfl⟩) (gPreS hP hK hD [] (by decide) rfl) rfl rfl hl.1 rfl (lv_room (Nat.le_of_ble_eq_true rfl)) dX2_move_10 ⟨Nat.le_of_ble_eq_true rfl, Nat.le_of_ble_eq_true rfl⟩) hP hD hS hA (fun H locs hP hS => ?_)
  obtain ⟨h_3, hf⟩ := pIn_out hf
  refine va_iald hx hb hK hP 1 0 rfl rfl h_3 dX2_move_13 ?_
  refine lv_iload_n hx hb dX2_move_14 rfl (lv_at hl 3 rfl) ?_
  obtain ⟨z_4, hz_4, hf⟩ := pLet_out hf
  refine gI0 (va_runS (As := [.int x2]) (rest := [.int ((gG_state u) z_2.toNatClampNeg)]) ⟨hx, hb, hml, hown, hts⟩ (ctX1_n l D cI x2 z_4 hz_4.symm H.size) (va_cwS 1 hts gX2_move_X1_n rfl rfl rfl (by decide +kernel) ⟨Nat.le_of_ble_eq_true rfl, Nat.le_of_ble_eq_true rfl⟩) (gPreS hP hK hD [] (by decide) rfl) rfl rfl hl.1 rfl (lv_room (Nat.le_of_ble_eq_true rfl)) dX2_move_15 ⟨Nat.le_of_ble_eq_true rfl, Nat.le_of_ble_eq_true rfl⟩) hP hD hS hA (fun H locs hP hS => ?_)
  refine lv_iadd hx hb dX2_move_18 ?_
  refine lv_sipush (v := 255) hx hb dX2_move_19 (by decide) ?_
  refine lv_iand hx hb dX2_move_22 ?_
  obtain ⟨x_5, ex_5, hf⟩ := pLet_out hf
  refine gTop ex_5 ?_
  refine lv_istore (lv' := [(4, .int x_5), (3, .int z_1), (0, .ref a0), (1, .int x1), (2, .int x2)]) hx hb dX2_move_23 hl (by decide) rfl (fun ls hl => ?_)
  refine lv_iload_n hx hb dX2_move_25 rfl (lv_at hl 3 rfl) ?_
  by_cases c_8 : x1 = 2
  · replace hf := pI_t c_8 hf
    refine lv_tableIn (tgt := 148) (off := 122) hx hb dX2_move_26 (by rw [c_8]; decide) (by rw [c_8]; decide) (by rw [c_8]; rfl) (by decide) ?_
    refine lv_aload_n hx hb dX2_move_148 rfl (lv_at hl 2 rfl) ?_
    refine lv_aload_n hx hb dX2_move_149 rfl (lv_at hl 2 rfl) ?_
    refine va_get (D := D) (ci := 1) (v := .ref a1) (C := RX2) (T := TX2) (N := 6) hx hb hts inX2_move_X2 hown hK hP 0 rfl rfl 0 (by decide) (hts (.fieldLink RX2 9 "BlockCache$Guest" "state" "[I") (by decide +kernel)) (fun _ h9 => h9) rfl dX2_move_150 ?_
    refine lv_iconst (v := 0) hx hb dX2_move_153 (by decide) ?_
    obtain ⟨h_6, hf⟩ := pIn_out hf
    refine va_iald hx hb hK hP 1 0 rfl rfl h_6 dX2_move_154 ?_
    obtain ⟨z_7, hz_7, hf⟩ := pB_out hf
    refine gV (w' := (wG a0 a1 a2 a3 a4 a5 cI z_7)) (va_runV (As := [.int ((gG_state u) ((0 : Int32)).toNatClampNeg)]) (rest := []) ⟨hx, hb, hml, hown, hts⟩ (ctX2_give l D cI a0 a1 a2 a3 a4 a5 u ((gG_state u) ((0 : Int32)).toNatClampNeg) z_7 hz_7 H.size) (cwV 1 hts gX2_move_X2_give rfl rfl rfl (by decide +kernel) ⟨Nat.le_of_ble_eq_true rfl, Nat.le_of_ble_eq_true rfl⟩) (gPreV (ci := 1) (C := RX2) (T := TX2) (N := 6) hP hK hD [0, 1, 2, 3, 4, 5] (by decide) rfl 0 rfl rfl) rfl rfl hl.1 rfl (lv_room (Nat.le_of_ble_eq_true rfl)) dX2_move_155 ⟨Nat.le_of_ble_eq_true rfl, Nat.le_of_ble_eq_true rfl⟩) hP hD hS hA [0, 1, 2, 3, 4, 5] [] [0, 1, 2, 3, 4, 5] rfl rfl (by decide) (by decide) rfl (by decide) (fun H locs hP hD hS => ?_)
    refine lv_goto (tgt := 290) hx hb dX2_move_158 (by decide) ?_
    have hz := Option.some.inj hf
    subst hz
    exact gRetV hx hb hr hlocks hK hP hD hS rfl dX2_move_290
  · replace hf := pI_f c_8 hf
    by_cases c_12 : x1 = 3
    · replace hf := pI_t c_12 hf
      refine lv_tableIn (tgt := 161) (off := 135) hx hb dX2_move_26 (by rw [c_12]; decide) (by rw [c_12]; decide) (by rw [c_12]; rfl) (by decide) ?_
      refine lv_aload_n hx hb dX2_move_161 rfl (lv_at hl 2 rfl) ?_
      refine va_get (D := D) (ci := 1) (v := .ref a1) (C := RX2) (T := TX2) (N := 6) hx hb hts inX2_move_X2 hown hK hP 0 rfl rfl 0 (by decide) (hts (.fieldLink RX2 9 "BlockCache$Guest" "state" "[I") (by decide +kernel)) (fun _ h9 => h9) rfl dX2_move_162 ?_
      refine lv_iconst (v := 0) hx hb dX2_move_165 (by decide) ?_
      refine lv_aload_n hx hb dX2_move_166 rfl (lv_at hl 2 rfl) ?_
      refine va_get (D := D) (ci := 1) (v := .ref a3) (C := RX2) (T := TX2) (N := 6) hx hb hts inX2_move_X2 hown hK hP 0 rfl rfl 2 (by decide) (hts (.fieldLink RX2 23 "BlockCache$Guest" "inputs" "LBlockCache$Queue;") (by decide +kernel)) (fun _ h9 => h9) rfl dX2_move_167 ?_
      refine va_get (D := D) (ci := 2) (v := .int (gQ_many (gG_inputs u))) (C := RX3) (T := TX3) (N := 3) hx hb hts inX2_move_X3 hown hK hP 3 rfl rfl 2 (by decide) (hts (.fieldLink RX2 104 "BlockCache$Queue" "many" "I") (by decide +kernel)) (fun _ h9 => h9) rfl dX2_move_170 ?_
      refine lv_if_ne (tgt := 180) hx hb dX2_move_173 (by decide) (fun c_9 => ?_) (fun c_9 => ?_)
      · replace hf := pI_f c_9 hf
        refine lv_aload_n hx hb dX2_move_180 rfl (lv_at hl 2 rfl) ?_
        refine va_get (D := D) (ci := 1) (v := .ref a3) (C := RX2) (T := TX2) (N := 6) hx hb hts inX2_move_X2 hown hK hP 0 rfl rfl 2 (by decide) (hts (.fieldLink RX2 23 "BlockCache$Guest" "inputs" "LBlockCache$Queue;") (by decide +kernel)) (fun _ h9 => h9) rfl dX2_move_181 ?_
        obtain ⟨z_10, hz_10, hf⟩ := pB_out hf
        obtain ⟨u_11, eu_11, hf⟩ := pLet_out hf
        refine gI (w' := (wG a0 a1 a2 a3 a4 a5 cI u_11)) (va_runV (As := []) (rest := [.int 0, .ref a1]) ⟨hx, hb, hml, hown, hts⟩ (ctX3_takeFirst l D cI a3 a4 32 (gG_inputs u) z_10 hz_10 H.size) (cwV 0 hts gX2_move_X3_takeFirst rfl rfl rfl (by decide +kernel) ⟨Nat.le_of_ble_eq_true rfl, Nat.le_of_ble_eq_true rfl⟩) (gPreV (ci := 2) (C := RX3) (T := TX3) (N := 3) hP hK hD [3, 4] (by decide) rfl 3 rfl rfl) rfl rfl hl.1 rfl (lv_room (Nat.le_of_ble_eq_true rfl)) dX2_move_184 ⟨Nat.le_of_ble_eq_true rfl, Nat.le_of_ble_eq_true rfl⟩) hP hD hS hA [3, 4] [0, 1, 2, 5] [0, 1, 2, 4, 5, 3] rfl rfl (by decide) (by decide) (by rw [eu_11]; rfl) (by decide) (fun H locs hP hD hS => ?_)
        exact wkX2_move_b187 C0 _ _ _ _ H locs ls hf hP hD hS (lv_sub hl [] rfl)
      · replace hf := pI_t c_9 hf
        refine lv_iconst (v := 0) hx hb dX2_move_176 (by decide) ?_
        refine lv_goto (tgt := 187) hx hb dX2_move_177 (by decide) ?_
        exact wkX2_move_b187 C0 _ _ _ _ H locs ls hf hP hD hS (lv_sub hl [] rfl)
    · replace hf := pI_f c_12 hf
      by_cases c_15 : x1 = 5
      · replace hf := pI_t c_15 hf
        refine lv_tableIn (tgt := 191) (off := 165) hx hb dX2_move_26 (by rw [c_15]; decide) (by rw [c_15]; decide) (by rw [c_15]; rfl) (by decide) ?_
        refine lv_aload_n hx hb dX2_move_191 rfl (lv_at hl 2 rfl) ?_
        refine va_get (D := D) (ci := 1) (v := .ref a1) (C := RX2) (T := TX2) (N := 6) hx hb hts inX2_move_X2 hown hK hP 0 rfl rfl 0 (by decide) (hts (.fieldLink RX2 9 "BlockCache$Guest" "state" "[I") (by decide +kernel)) (fun _ h9 => h9) rfl dX2_move_192 ?_
        refine lv_bipush (v := 8) hx hb dX2_move_195 (by decide) ?_
        refine lv_iconst (v := 0) hx hb dX2_move_197 (by decide) ?_
        obtain ⟨h_13, hf⟩ := pIn_out hf
        refine va_iast hx hb hK hP hD hS 1 0 rfl rfl h_13 dX2_move_198 (fun H locs hP hD hS => ?_)
        obtain ⟨u_14, eu_14, hf⟩ := pLet_out hf
        replace hP : va_P D vwCl (wG a0 a1 a2 a3 a4 a5 cI u_14) H := by rw [eu_14]; exact hP
        replace hD : va_D A (wG a0 a1 a2 a3 a4 a5 cI u_14) := by rw [eu_14]; exact hD
        refine lv_goto (tgt := 290) hx hb dX2_move_199 (by decide) ?_
        have hz := Option.some.inj hf
        subst hz
        exact gRetV hx hb hr hlocks hK hP hD hS rfl dX2_move_290
      · replace hf := pI_f c_15 hf
        by_cases c_20 : x1 = 6
        · replace hf := pI_t c_20 hf
          refine lv_tableIn (tgt := 202) (off := 176) hx hb dX2_move_26 (by rw [c_20]; decide) (by rw [c_20]; decide) (by rw [c_20]; rfl) (by decide) ?_
          refine lv_aload_n hx hb dX2_move_202 rfl (lv_at hl 2 rfl) ?_
          refine va_get (D := D) (ci := 1) (v := .ref a1) (C := RX2) (T := TX2) (N := 6) hx hb hts inX2_move_X2 hown hK hP 0 rfl rfl 0 (by decide) (hts (.fieldLink RX2 9 "BlockCache$Guest" "state" "[I") (by decide +kernel)) (fun _ h9 => h9) rfl dX2_move_203 ?_
          refine lv_iload_n hx hb dX2_move_206 rfl (lv_at hl 1 rfl) ?_
          refine lv_aload_n hx hb dX2_move_207 rfl (lv_at hl 2 rfl) ?_
          refine va_get (D := D) (ci := 1) (v := .ref a1) (C := RX2) (T := TX2) (N := 6) hx hb hts inX2_move_X2 hown hK hP 0 rfl rfl 0 (by decide) (hts (.fieldLink RX2 9 "BlockCache$Guest" "state" "[I") (by decide +kernel)) (fun _ h9 => h9) rfl dX2_move_208 ?_
          refine lv_iload_n hx hb dX2_move_211 rfl (lv_at hl 4 rfl) ?_
          obtain ⟨z_16, hz_16, hf⟩ := pLet_out hf
          refine gI0 (va_runS (As := [.int x2]) (rest := [.ref a1, .int z_1, .ref a1]) ⟨hx, hb, hml, hown, hts⟩ (ctX1_s l D cI x2 z_16 hz_16.symm H.size) (va_cwS 1 hts gX2_move_X1_s rfl rfl rfl (by decide +kernel) ⟨Nat.le_of_ble_eq_true rfl, Nat.le_of_ble_eq_true rfl⟩) (gPreS hP hK hD [] (by decide) rfl) rfl rfl hl.1 rfl (lv_room (Nat.le_of_ble_eq_true rfl)) dX2_move_212 ⟨Nat.le_of_ble_eq_true rfl, Nat.le_of_ble_eq_true rfl⟩) hP hD hS hA (fun H locs hP hS => ?_)
          obtain ⟨h_17, hf⟩ := pIn_out hf
          refine va_iald hx hb hK hP 1 0 rfl rfl h_17 dX2_move_215 ?_
          obtain ⟨h_18, hf⟩ := pIn_out hf
          refine va_iast hx hb hK hP hD hS 1 0 rfl rfl h_18 dX2_move_216 (fun H locs hP hD hS => ?_)
          obtain ⟨u_19, eu_19, hf⟩ := pLet_out hf
          replace hP : va_P D vwCl (wG a0 a1 a2 a3 a4 a5 cI u_19) H := by rw [eu_19]; exact hP
          replace hD : va_D A (wG a0 a1 a2 a3 a4 a5 cI u_19) := by rw [eu_19]; exact hD
          refine lv_goto (tgt := 290) hx hb dX2_move_217 (by decide) ?_
          have hz := Option.some.inj hf
          subst hz
          exact gRetV hx hb hr hlocks hK hP hD hS rfl dX2_move_290
        · replace hf := pI_f c_20 hf
          by_cases c_24 : x1 = 17
          · replace hf := pI_t c_24 hf
            refine lv_tableIn (tgt := 220) (off := 194) hx hb dX2_move_26 (by rw [c_24]; decide) (by rw [c_24]; decide) (by rw [c_24]; rfl) (by decide) ?_
            refine lv_aload_n hx hb dX2_move_220 rfl (lv_at hl 2 rfl) ?_
            refine va_get (D := D) (ci := 1) (v := .ref a1) (C := RX2) (T := TX2) (N := 6) hx hb hts inX2_move_X2 hown hK hP 0 rfl rfl 0 (by decide) (hts (.fieldLink RX2 9 "BlockCache$Guest" "state" "[I") (by decide +kernel)) (fun _ h9 => h9) rfl dX2_move_221 ?_
            refine lv_iload_n hx hb dX2_move_224 rfl (lv_at hl 1 rfl) ?_
            refine lv_iload_n hx hb dX2_move_225 rfl (lv_at hl 4 rfl) ?_
            obtain ⟨z_21, hz_21, hf⟩ := pLet_out hf
            refine gI0 (va_runS (As := [.int x2]) (rest := [.int z_1, .ref a1]) ⟨hx, hb, hml, hown, hts⟩ (ctX1_n l D cI x2 z_21 hz_21.symm H.size) (va_cwS 1 hts gX2_move_X1_n rfl rfl rfl (by decide +kernel) ⟨Nat.le_of_ble_eq_true rfl, Nat.le_of_ble_eq_true rfl⟩) (gPreS hP hK hD [] (by decide) rfl) rfl rfl hl.1 rfl (lv_room (Nat.le_of_ble_eq_true rfl)) dX2_move_226 ⟨Nat.le_of_ble_eq_true rfl, Nat.le_of_ble_eq_true rfl⟩) hP hD hS hA (fun H locs hP hS => ?_)
            obtain ⟨h_22, hf⟩ := pIn_out hf
            refine va_iast hx hb hK hP hD hS 1 0 rfl rfl h_22 dX2_move_229 (fun H locs hP hD hS => ?_)
            obtain ⟨u_23, eu_23, hf⟩ := pLet_out hf
            replace hP : va_P D vwCl (wG a0 a1 a2 a3 a4 a5 cI u_23) H := by rw [eu_23]; exact hP
            replace hD : va_D A (wG a0 a1 a2 a3 a4 a5 cI u_23) := by rw [eu_23]; exact hD
            refine lv_goto (tgt := 290) hx hb dX2_move_230 (by decide) ?_
            have hz := Option.some.inj hf
            subst hz
            exact gRetV hx hb hr hlocks hK hP hD hS rfl dX2_move_290
          · replace hf := pI_f c_24 hf
            by_cases c_28 : x1 = 21
            · replace hf := pI_t c_28 hf
              refine lv_tableIn (tgt := 233) (off := 207) hx hb dX2_move_26 (by rw [c_28]; decide) (by rw [c_28]; decide) (by rw [c_28]; rfl) (by decide) ?_
              refine lv_aload_n hx hb dX2_move_233 rfl (lv_at hl 2 rfl) ?_
              refine va_get (D := D) (ci := 1) (v := .ref a1) (C := RX2) (T := TX2) (N := 6) hx hb hts inX2_move_X2 hown hK hP 0 rfl rfl 0 (by decide) (hts (.fieldLink RX2 9 "BlockCache$Guest" "state" "[I") (by decide +kernel)) (fun _ h9 => h9) rfl dX2_move_234 ?_
              refine lv_iload_n hx hb dX2_move_237 rfl (lv_at hl 1 rfl) ?_
              refine lv_aload_n hx hb dX2_move_238 rfl (lv_at hl 2 rfl) ?_
              refine va_get (D := D) (ci := 1) (v := .ref a2) (C := RX2) (T := TX2) (N := 6) hx hb hts inX2_move_X2 hown hK hP 0 rfl rfl 1 (by decide) (hts (.fieldLink RX2 15 "BlockCache$Guest" "memory" "[I") (by decide +kernel)) (fun _ h9 => h9) rfl dX2_move_239 ?_
              refine lv_iload hx hb dX2_move_242 (lv_at hl 0 rfl) ?_
              obtain ⟨h_25, hf⟩ := pIn_out hf
              refine va_iald hx hb hK hP 2 0 rfl rfl h_25 dX2_move_244 ?_
              obtain ⟨h_26, hf⟩ := pIn_out hf
              refine va_iast hx hb hK hP hD hS 1 0 rfl rfl h_26 dX2_move_245 (fun H locs hP hD hS => ?_)
              obtain ⟨u_27, eu_27, hf⟩ := pLet_out hf
              replace hP : va_P D vwCl (wG a0 a1 a2 a3 a4 a5 cI u_27) H := by rw [eu_27]; exact hP
              replace hD : va_D A (wG a0 a1 a2 a3 a4 a5 cI u_27) := by rw [eu_27]; exact hD
              refine lv_goto (tgt := 290) hx hb dX2_move_246 (by decide) ?_
              have hz := Option.some.inj hf
              subst hz
              exact gRetV hx hb hr hlocks hK hP hD hS rfl dX2_move_290
            · replace hf := pI_f c_28 hf
              by_cases c_31 : x1 = 22
              · replace hf := pI_t c_31 hf
                refine lv_tableIn (tgt := 249) (off := 223) hx hb dX2_move_26 (by rw [c_31]; decide) (by rw [c_31]; decide) (by rw [c_31]; rfl) (by decide) ?_
                refine lv_aload_n hx hb dX2_move_249 rfl (lv_at hl 2 rfl) ?_
                refine lv_iload hx hb dX2_move_250 (lv_at hl 0 rfl) ?_
                refine lv_aload_n hx hb dX2_move_252 rfl (lv_at hl 2 rfl) ?_
                refine va_get (D := D) (ci := 1) (v := .ref a1) (C := RX2) (T := TX2) (N := 6) hx hb hts inX2_move_X2 hown hK hP 0 rfl rfl 0 (by decide) (hts (.fieldLink RX2 9 "BlockCache$Guest" "state" "[I") (by decide +kernel)) (fun _ h9 => h9) rfl dX2_move_253 ?_
                refine lv_iload_n hx hb dX2_move_256 rfl (lv_at hl 1 rfl) ?_
                obtain ⟨h_29, hf⟩ := pIn_out hf
                refine va_iald hx hb hK hP 1 0 rfl rfl h_29 dX2_move_257 ?_
                obtain ⟨z_30, hz_30, hf⟩ := pB_out hf
                refine gV (w' := (wG a0 a1 a2 a3 a4 a5 cI z_30)) (va_runV (As := [.int x_5, .int ((gG_state u) z_1.toNatClampNeg)]) (rest := []) ⟨hx, hb, hml, hown, hts⟩ (ctX2_write l D cI a0 a1 a2 a3 a4 a5 u x_5 ((gG_state u) z_1.toNatClampNeg) z_30 hz_30 H.size) (cwV 2 hts gX2_move_X2_write rfl rfl rfl (by decide +kernel) ⟨Nat.le_of_ble_eq_true rfl, Nat.le_of_ble_eq_true rfl⟩) (gPreV (ci := 1) (C := RX2) (T := TX2) (N := 6) hP hK hD [0, 1, 2, 3, 4, 5] (by decide) rfl 0 rfl rfl) rfl rfl hl.1 rfl (lv_room (Nat.le_of_ble_eq_true rfl)) dX2_move_258 ⟨Nat.le_of_ble_eq_true rfl, Nat.le_of_ble_eq_true rfl⟩) hP hD hS hA [0, 1, 2, 3, 4, 5] [] [0, 1, 2, 3, 4, 5] rfl rfl (by decide) (by decide) rfl (by decide) (fun H locs hP hD hS => ?_)
                refine lv_goto (tgt := 290) hx hb dX2_move_261 (by decide) ?_
                have hz := Option.some.inj hf
                subst hz
                exact gRetV hx hb hr hlocks hK hP hD hS rfl dX2_move_290
              · replace hf := pI_f c_31 hf
                by_cases c_34 : x1 = 27
                · replace hf := pI_t c_34 hf
                  refine lv_tableIn (tgt := 264) (off := 238) hx hb dX2_move_26 (by rw [c_34]; decide) (by rw [c_34]; decide) (by rw [c_34]; rfl) (by decide) ?_
                  refine lv_aload_n hx hb dX2_move_264 rfl (lv_at hl 2 rfl) ?_
                  refine lv_aload_n hx hb dX2_move_265 rfl (lv_at hl 2 rfl) ?_
                  refine va_get (D := D) (ci := 1) (v := .ref a1) (C := RX2) (T := TX2) (N := 6) hx hb hts inX2_move_X2 hown hK hP 0 rfl rfl 0 (by decide) (hts (.fieldLink RX2 9 "BlockCache$Guest" "state" "[I") (by decide +kernel)) (fun _ h9 => h9) rfl dX2_move_266 ?_
                  refine lv_iload_n hx hb dX2_move_269 rfl (lv_at hl 1 rfl) ?_
                  obtain ⟨h_32, hf⟩ := pIn_out hf
                  refine va_iald hx hb hK hP 1 0 rfl rfl h_32 dX2_move_270 ?_
                  obtain ⟨z_33, hz_33, hf⟩ := pB_out hf
                  refine gV (w' := (wG a0 a1 a2 a3 a4 a5 cI z_33)) (va_runV (As := [.int ((gG_state u) z_1.toNatClampNeg)]) (rest := []) ⟨hx, hb, hml, hown, hts⟩ (ctX2_push l D cI a0 a1 a2 a3 a4 a5 u ((gG_state u) z_1.toNatClampNeg) z_33 hz_33 H.size) (cwV 1 hts gX2_move_X2_push rfl rfl rfl (by decide +kernel) ⟨Nat.le_of_ble_eq_true rfl, Nat.le_of_ble_eq_true rfl⟩) (gPreV (ci := 1) (C := RX2) (T := TX2) (N := 6) hP hK hD [0, 1, 2, 3, 4, 5] (by decide) rfl 0 rfl rfl) rfl rfl hl.1 rfl (lv_room (Nat.le_of_ble_eq_true rfl)) dX2_move_271 ⟨Nat.le_of_ble_eq_true rfl, Nat.le_of_ble_eq_true rfl⟩) hP hD hS hA [0, 1, 2, 3, 4, 5] [] [0, 1, 2, 3, 4, 5] rfl rfl (by decide) (by decide) rfl (by decide) (fun H locs hP hD hS => ?_)
                  refine lv_goto (tgt := 290) hx hb dX2_move_274 (by decide) ?_
                  have hz := Option.some.inj hf
                  subst hz
                  exact gRetV hx hb hr hlocks hK hP hD hS rfl dX2_move_290
                · replace hf := pI_f c_34 hf
                  by_cases c_38 : x1 = 28
                  · replace hf := pI_t c_38 hf
                    refine lv_tableIn (tgt := 277) (off := 251) hx hb dX2_move_26 (by rw [c_38]; decide) (by rw [c_38]; decide) (by rw [c_38]; rfl) (by decide) ?_
                    refine lv_aload_n hx hb dX2_move_277 rfl (lv_at hl 2 rfl) ?_
                    refine va_get (D := D) (ci := 1) (v := .ref a1) (C := RX2) (T := TX2) (N := 6) hx hb hts inX2_move_X2 hown hK hP 0 rfl rfl 0 (by decide) (hts (.fieldLink RX2 9 "BlockCache$Guest" "state" "[I") (by decide +kernel)) (fun _ h9 => h9) rfl dX2_move_278 ?_
                    refine lv_iload_n hx hb dX2_move_281 rfl (lv_at hl 1 rfl) ?_
                    refine lv_aload_n hx hb dX2_move_282 rfl (lv_at hl 2 rfl) ?_
                    obtain ⟨z_35, hz_35, hf⟩ := pB_out hf
                    refine gI (w' := (wG a0 a1 a2 a3 a4 a5 cI z_35.2)) (va_runV (As := []) (rest := [.int z_1, .ref a1]) ⟨hx, hb, hml, hown, hts⟩ (ctX2_pop l D cI a0 a1 a2 a3 a4 a5 u z_35 hz_35 H.size) (cwV 0 hts gX2_move_X2_pop rfl rfl rfl (by decide +kernel) ⟨Nat.le_of_ble_eq_true rfl, Nat.le_of_ble_eq_true rfl⟩) (gPreV (ci := 1) (C := RX2) (T := TX2) (N := 6) hP hK hD [0, 1, 2, 3, 4, 5] (by decide) rfl 0 rfl rfl) rfl rfl hl.1 rfl (lv_room (Nat.le_of_ble_eq_true rfl)) dX2_move_283 ⟨Nat.le_of_ble_eq_true rfl, Nat.le_of_ble_eq_true rfl⟩) hP hD hS hA [0, 1, 2, 3, 4, 5] [] [0, 1, 2, 3, 4, 5] rfl rfl (by decide) (by decide) rfl (by decide) (fun H locs hP hD hS => ?_)
                    obtain ⟨h_36, hf⟩ := pIn_out hf
                    refine va_iast hx hb hK hP hD hS 1 0 rfl rfl h_36 dX2_move_286 (fun H locs hP hD hS => ?_)
                    obtain ⟨u_37, eu_37, hf⟩ := pLet_out hf
                    replace hP : va_P D vwCl (wG a0 a1 a2 a3 a4 a5 cI u_37) H := by rw [eu_37]; exact hP
                    replace hD : va_D A (wG a0 a1 a2 a3 a4 a5 cI u_37) := by rw [eu_37]; exact hD
                    refine lv_goto (tgt := 290) hx hb dX2_move_287 (by decide) ?_
                    have hz := Option.some.inj hf
                    subst hz
                    exact gRetV hx hb hr hlocks hK hP hD hS rfl dX2_move_290
                  · replace hf := pI_f c_38 hf
                    have hdef : W p l e rmX2_move s m args below meth c H locs 0 0 (MQ below (oV D vwCl [(cI, .int)] A (wG a0 a1 a2 a3 a4 a5 cI z)) args s 0 0 A) (F0 m 290 ls []) := by
                      have hz := Option.some.inj hf
                      subst hz
                      exact gRetV hx hb hr hlocks hK hP hD hS rfl dX2_move_290
                    by_cases c_39 : x1 = 4
                    · refine lv_tableIn (tgt := 290) (off := 264) hx hb dX2_move_26 (by rw [c_39]; decide) (by rw [c_39]; decide) (by rw [c_39]; rfl) (by decide) ?_
                      exact hdef
                    by_cases c_40 : x1 = 7
                    · refine lv_tableIn (tgt := 290) (off := 264) hx hb dX2_move_26 (by rw [c_40]; decide) (by rw [c_40]; decide) (by rw [c_40]; rfl) (by decide) ?_
                      exact hdef
                    by_cases c_41 : x1 = 8
                    · refine lv_tableIn (tgt := 290) (off := 264) hx hb dX2_move_26 (by rw [c_41]; decide) (by rw [c_41]; decide) (by rw [c_41]; rfl) (by decide) ?_
                      exact hdef
                    by_cases c_42 : x1 = 9
                    · refine lv_tableIn (tgt := 290) (off := 264) hx hb dX2_move_26 (by rw [c_42]; decide) (by rw [c_42]; decide) (by rw [c_42]; rfl) (by decide) ?_
                      exact hdef
                    by_cases c_43 : x1 = 10
                    · refine lv_tableIn (tgt := 290) (off := 264) hx hb dX2_move_26 (by rw [c_43]; decide) (by rw [c_43]; decide) (by rw [c_43]; rfl) (by decide) ?_
                      exact hdef
                    by_cases c_44 : x1 = 11
                    · refine lv_tableIn (tgt := 290) (off := 264) hx hb dX2_move_26 (by rw [c_44]; decide) (by rw [c_44]; decide) (by rw [c_44]; rfl) (by decide) ?_
                      exact hdef
                    by_cases c_45 : x1 = 12
                    · refine lv_tableIn (tgt := 290) (off := 264) hx hb dX2_move_26 (by rw [c_45]; decide) (by rw [c_45]; decide) (by rw [c_45]; rfl) (by decide) ?_
                      exact hdef
                    by_cases c_46 : x1 = 13
                    · refine lv_tableIn (tgt := 290) (off := 264) hx hb dX2_move_26 (by rw [c_46]; decide) (by rw [c_46]; decide) (by rw [c_46]; rfl) (by decide) ?_
                      exact hdef
                    by_cases c_47 : x1 = 14
                    · refine lv_tableIn (tgt := 290) (off := 264) hx hb dX2_move_26 (by rw [c_47]; decide) (by rw [c_47]; decide) (by rw [c_47]; rfl) (by decide) ?_
                      exact hdef
                    by_cases c_48 : x1 = 15
                    · refine lv_tableIn (tgt := 290) (off := 264) hx hb dX2_move_26 (by rw [c_48]; decide) (by rw [c_48]; decide) (by rw [c_48]; rfl) (by decide) ?_
                      exact hdef
                    by_cases c_49 : x1 = 16
                    · refine lv_tableIn (tgt := 290) (off := 264) hx hb dX2_move_26 (by rw [c_49]; decide) (by rw [c_49]; decide) (by rw [c_49]; rfl) (by decide) ?_
                      exact hdef
                    by_cases c_50 : x1 = 18
                    · refine lv_tableIn (tgt := 290) (off := 264) hx hb dX2_move_26 (by rw [c_50]; decide) (by rw [c_50]; decide) (by rw [c_50]; rfl) (by decide) ?_
                      exact hdef
                    by_cases c_51 : x1 = 19
                    · refine lv_tableIn (tgt := 290) (off := 264) hx hb dX2_move_26 (by rw [c_51]; decide) (by rw [c_51]; decide) (by rw [c_51]; rfl) (by decide) ?_
                      exact hdef
                    by_cases c_52 : x1 = 20
                    · refine lv_tableIn (tgt := 290) (off := 264) hx hb dX2_move_26 (by rw [c_52]; decide) (by rw [c_52]; decide) (by rw [c_52]; rfl) (by decide) ?_
                      exact hdef
                    by_cases c_53 : x1 = 23
                    · refine lv_tableIn (tgt := 290) (off := 264) hx hb dX2_move_26 (by rw [c_53]; decide) (by rw [c_53]; decide) (by rw [c_53]; rfl) (by decide) ?_
                      exact hdef
                    by_cases c_54 : x1 = 24
                    · refine lv_tableIn (tgt := 290) (off := 264) hx hb dX2_move_26 (by rw [c_54]; decide) (by rw [c_54]; decide) (by rw [c_54]; rfl) (by decide) ?_
                      exact hdef
                    by_cases c_55 : x1 = 25
                    · refine lv_tableIn (tgt := 290) (off := 264) hx hb dX2_move_26 (by rw [c_55]; decide) (by rw [c_55]; decide) (by rw [c_55]; rfl) (by decide) ?_
                      exact hdef
                    by_cases c_56 : x1 = 26
                    · refine lv_tableIn (tgt := 290) (off := 264) hx hb dX2_move_26 (by rw [c_56]; decide) (by rw [c_56]; decide) (by rw [c_56]; rfl) (by decide) ?_
                      exact hdef
                    have nc_8 := lv_neT (k := 2) (a := 2) c_8 (by decide)
                    have nc_12 := lv_neT (k := 3) (a := 3) c_12 (by decide)
                    have nc_15 := lv_neT (k := 5) (a := 5) c_15 (by decide)
                    have nc_20 := lv_neT (k := 6) (a := 6) c_20 (by decide)
                    have nc_24 := lv_neT (k := 17) (a := 17) c_24 (by decide)
                    have nc_28 := lv_neT (k := 21) (a := 21) c_28 (by decide)
                    have nc_31 := lv_neT (k := 22) (a := 22) c_31 (by decide)
                    have nc_34 := lv_neT (k := 27) (a := 27) c_34 (by decide)
                    have nc_38 := lv_neT (k := 28) (a := 28) c_38 (by decide)
                    have nc_39 := lv_neT (k := 4) (a := 4) c_39 (by decide)
                    have nc_40 := lv_neT (k := 7) (a := 7) c_40 (by decide)
                    have nc_41 := lv_neT (k := 8) (a := 8) c_41 (by decide)
                    have nc_42 := lv_neT (k := 9) (a := 9) c_42 (by decide)
                    have nc_43 := lv_neT (k := 10) (a := 10) c_43 (by decide)
                    have nc_44 := lv_neT (k := 11) (a := 11) c_44 (by decide)
                    have nc_45 := lv_neT (k := 12) (a := 12) c_45 (by decide)
                    have nc_46 := lv_neT (k := 13) (a := 13) c_46 (by decide)
                    have nc_47 := lv_neT (k := 14) (a := 14) c_47 (by decide)
                    have nc_48 := lv_neT (k := 15) (a := 15) c_48 (by decide)
                    have nc_49 := lv_neT (k := 16) (a := 16) c_49 (by decide)
                    have nc_50 := lv_neT (k := 18) (a := 18) c_50 (by decide)
                    have nc_51 := lv_neT (k := 19) (a := 19) c_51 (by decide)
                    have nc_52 := lv_neT (k := 20) (a := 20) c_52 (by decide)
                    have nc_53 := lv_neT (k := 23) (a := 23) c_53 (by decide)
                    have nc_54 := lv_neT (k := 24) (a := 24) c_54 (by decide)
                    have nc_55 := lv_neT (k := 25) (a := 25) c_55 (by decide)
                    have nc_56 := lv_neT (k := 26) (a := 26) c_56 (by decide)
                    refine lv_tableOut (tgt := 290) hx hb dX2_move_26 (by omega) (by decide) ?_
                    exact hdef
theorem ctX2_move (l : Launch) (D : va_G) (cI : ClassId) (a0 a1 a2 a3 a4 a5 : Nat) (u : TG) (x1 : Int32) (x2 : Int32) (z : TG) (hz : fX2_move u x1 x2 = some z) : CtV l yX2_move wsX2_move rmX2_move D vwCl [(cI, .int)] [.ref a0, .int x1, .int x2] (wG a0 a1 a2 a3 a4 a5 cI u) (wG a0 a1 a2 a3 a4 a5 cI z) :=
  ctV_of (cc := cX2_move) (maxL := 5) (ret := none) (by decide) rfl (Nat.le_of_ble_eq_true rfl) (fun p e s m below meth c A ls C hl hP hD hS => wkX2_move C z _ _ _ s.heap [] ls hz hP hD hS hl)
abbrev rmX2_execute : Room := { frames := 3, cells := 0, slots := 0, locals := 67 }
theorem inX2_execute_X2 : ∀ w ∈ wsX20, w ∈ wsX2_execute := by decide +kernel
set_option maxRecDepth 100000 in
set_option maxHeartbeats 4000000 in
theorem wkX2_execute {p : Program} {l : Launch} {e : Env} {s : State} {m : MethodId} {args : Array Value} {below : List Frame} {meth : Method} {c : Code} {D : va_G} {cI : ClassId} {A : Nat → Prop} {a0 a1 a2 a3 a4 a5 : Nat} (C : cxt p s m args meth c cX2_execute none 3 RX2 wsX2_execute D vwCl [(cI, .int)] A) : ∀ (z : TG) (u : TG) (x1 : Int32) (H : Heap) (locs : List Loc) (ls : Array Slot), fX2_execute u x1 = some z → va_P D vwCl (wG a0 a1 a2 a3 a4 a5 cI u) H → va_D A (wG a0 a1 a2 a3 a4 a5 cI u) → va_S A s.heap H locs → lv_has ls 3 [(0, .ref a0), (1, .int x1)] → W p l e rmX2_execute s m args below meth c H locs 0 0 (MQ below (oV D vwCl [(cI, .int)] A (wG a0 a1 a2 a3 a4 a5 cI z)) args s 0 0 A) (F0 m 0 ls []) := by
  have C0 := C
  obtain ⟨hx, hb, hr, hml, hown, hts, hlocks, hK, hA⟩ := C
  intro z u x1 H locs ls hf hP hD hS hl
  unfold fX2_execute at hf
  refine lv_iload_n hx hb dX2_execute_0 rfl (lv_at hl 1 rfl) ?_
  obtain ⟨z_1, hz_1, hf⟩ := pLet_out hf
  refine gI0 (va_runS (As := [.int x1]) (rest := []) ⟨hx, hb, hml, hown, hts⟩ (ctX1_kind l D cI x1 z_1 hz_1.symm H.size) (va_cwS 1 hts gX2_execute_X1_kind rfl rfl rfl (by decide +kernel) ⟨Nat.le_of_ble_eq_true rfl, Nat.le_of_ble_eq_true rfl⟩) (gPreS hP hK hD [] (by decide) rfl) rfl rfl hl.1 rfl (lv_room (Nat.le_of_ble_eq_true rfl)) dX2_execute_1 ⟨Nat.le_of_ble_eq_true rfl, Nat.le_of_ble_eq_true rfl⟩) hP hD hS hA (fun H locs hP hS => ?_)
  refine lv_istore_n (lv' := [(2, .int z_1), (0, .ref a0), (1, .int x1)]) hx hb dX2_execute_4 rfl hl (by decide) rfl (fun ls hl => ?_)
  refine lv_aload_n hx hb dX2_execute_5 rfl (lv_at hl 1 rfl) ?_
  refine va_get (D := D) (ci := 1) (v := .ref a1) (C := RX2) (T := TX2) (N := 6) hx hb hts inX2_execute_X2 hown hK hP 0 rfl rfl 0 (by decide) (hts (.fieldLink RX2 9 "BlockCache$Guest" "state" "[I") (by decide +kernel)) (fun _ h9 => h9) rfl dX2_execute_6 ?_
  refine lv_bipush (v := 9) hx hb dX2_execute_9 (by decide) ?_
  refine lv_aload_n hx hb dX2_execute_11 rfl (lv_at hl 1 rfl) ?_
  refine va_get (D := D) (ci := 1) (v := .ref a1) (C := RX2) (T := TX2) (N := 6) hx hb hts inX2_execute_X2 hown hK hP 0 rfl rfl 0 (by decide) (hts (.fieldLink RX2 9 "BlockCache$Guest" "state" "[I") (by decide +kernel)) (fun _ h9 => h9) rfl dX2_execute_12 ?_
  refine lv_bipush (v := 9) hx hb dX2_execute_15 (by decide) ?_
  obtain ⟨h_2, hf⟩ := pIn_out hf
  refine va_iald hx hb hK hP 1 0 rfl rfl h_2 dX2_execute_17 ?_
  refine lv_iload_n hx hb dX2_execute_18 rfl (lv_at hl 0 rfl) ?_
  obtain ⟨z_3, hz_3, hf⟩ := pLet_out hf
  refine gI0 (va_runS (As := [.int z_1]) (rest := [.int ((gG_state u) ((9 : Int32)).toNatClampNeg), .int 9, .ref a1]) ⟨hx, hb, hml, hown, hts⟩ (ctX1_bytes l D cI z_1 z_3 hz_3.symm H.size) (va_cwS 1 hts gX2_execute_X1_bytes rfl rfl rfl (by decide +kernel) ⟨Nat.le_of_ble_eq_true rfl, Nat.le_of_ble_eq_true rfl⟩) (gPreS hP hK hD [] (by decide) rfl) rfl rfl hl.1 rfl (lv_room (Nat.le_of_ble_eq_true rfl)) dX2_execute_19 ⟨Nat.le_of_ble_eq_true rfl, Nat.le_of_ble_eq_true rfl⟩) hP hD hS hA (fun H locs hP hS => ?_)
  refine lv_iadd hx hb dX2_execute_22 ?_
  refine lv_sipush (v := 255) hx hb dX2_execute_23 (by decide) ?_
  refine lv_iand hx hb dX2_execute_26 ?_
  obtain ⟨h_4, hf⟩ := pIn_out hf
  refine va_iast hx hb hK hP hD hS 1 0 rfl rfl h_4 dX2_execute_27 (fun H locs hP hD hS => ?_)
  obtain ⟨u_5, eu_5, hf⟩ := pLet_out hf
  replace hP : va_P D vwCl (wG a0 a1 a2 a3 a4 a5 cI u_5) H := by rw [eu_5]; exact hP
  replace hD : va_D A (wG a0 a1 a2 a3 a4 a5 cI u_5) := by rw [eu_5]; exact hD
  refine lv_iload_n hx hb dX2_execute_28 rfl (lv_at hl 0 rfl) ?_
  obtain ⟨z_6, hz_6, hf⟩ := pLet_out hf
  refine gI0 (va_runS (As := [.int z_1]) (rest := []) ⟨hx, hb, hml, hown, hts⟩ (ctX1_makesFlags l D cI z_1 z_6 hz_6.symm H.size) (va_cwS 1 hts gX2_execute_X1_makesFlags rfl rfl rfl (by decide +kernel) ⟨Nat.le_of_ble_eq_true rfl, Nat.le_of_ble_eq_true rfl⟩) (gPreS hP hK hD [] (by decide) rfl) rfl rfl hl.1 rfl (lv_room (Nat.le_of_ble_eq_true rfl)) dX2_execute_29 ⟨Nat.le_of_ble_eq_true rfl, Nat.le_of_ble_eq_true rfl⟩) hP hD hS hA (fun H locs hP hS => ?_)
  refine lv_if_eq (tgt := 44) hx hb dX2_execute_32 (by decide) (fun c_7 => ?_) (fun c_7 => ?_)
  · replace hf := pI_t c_7 hf
    refine lv_iload_n hx hb dX2_execute_44 rfl (lv_at hl 0 rfl) ?_
    obtain ⟨z_8, hz_8, hf⟩ := pLet_out hf
    refine gI0 (va_runS (As := [.int z_1]) (rest := []) ⟨hx, hb, hml, hown, hts⟩ (ctX1_endsBlock l D cI z_1 z_8 hz_8.symm H.size) (va_cwS 1 hts gX2_execute_X1_endsBlock rfl rfl rfl (by decide +kernel) ⟨Nat.le_of_ble_eq_true rfl, Nat.le_of_ble_eq_true rfl⟩) (gPreS hP hK hD [] (by decide) rfl) rfl rfl hl.1 rfl (lv_room (Nat.le_of_ble_eq_true rfl)) dX2_execute_45 ⟨Nat.le_of_ble_eq_true rfl, Nat.le_of_ble_eq_true rfl⟩) hP hD hS hA (fun H locs hP hS => ?_)
    refine lv_if_eq (tgt := 60) hx hb dX2_execute_48 (by decide) (fun c_9 => ?_) (fun c_9 => ?_)
    · replace hf := pI_t c_9 hf
      refine lv_aload_n hx hb dX2_execute_60 rfl (lv_at hl 1 rfl) ?_
      refine lv_iload_n hx hb dX2_execute_61 rfl (lv_at hl 0 rfl) ?_
      refine lv_iload_n hx hb dX2_execute_62 rfl (lv_at hl 2 rfl) ?_
      obtain ⟨z_10, hz_10, hf⟩ := pB_out hf
      refine gV (w' := (wG a0 a1 a2 a3 a4 a5 cI z_10)) (va_runV (As := [.int z_1, .int x1]) (rest := []) ⟨hx, hb, hml, hown, hts⟩ (ctX2_move l D cI a0 a1 a2 a3 a4 a5 u_5 z_1 x1 z_10 hz_10 H.size) (cwV 2 hts gX2_execute_X2_move rfl rfl rfl (by decide +kernel) ⟨Nat.le_of_ble_eq_true rfl, Nat.le_of_ble_eq_true rfl⟩) (gPreV (ci := 1) (C := RX2) (T := TX2) (N := 6) hP hK hD [0, 1, 2, 3, 4, 5] (by decide) rfl 0 rfl rfl) rfl rfl hl.1 rfl (lv_room (Nat.le_of_ble_eq_true rfl)) dX2_execute_63 ⟨Nat.le_of_ble_eq_true rfl, Nat.le_of_ble_eq_true rfl⟩) hP hD hS hA [0, 1, 2, 3, 4, 5] [] [0, 1, 2, 3, 4, 5] rfl rfl (by decide) (by decide) rfl (by decide) (fun H locs hP hD hS => ?_)
      have hz := Option.some.inj hf
      subst hz
      exact gRetV hx hb hr hlocks hK hP hD hS rfl dX2_execute_66
    · replace hf := pI_f c_9 hf
      refine lv_aload_n hx hb dX2_execute_51 rfl (lv_at hl 1 rfl) ?_
      refine lv_iload_n hx hb dX2_execute_52 rfl (lv_at hl 0 rfl) ?_
      refine lv_iload_n hx hb dX2_execute_53 rfl (lv_at hl 2 rfl) ?_
      obtain ⟨z_11, hz_11, hf⟩ := pB_out hf
      refine gV (w' := (wG a0 a1 a2 a3 a4 a5 cI z_11)) (va_runV (As := [.int z_1, .int x1]) (rest := []) ⟨hx, hb, hml, hown, hts⟩ (ctX2_steer l D cI a0 a1 a2 a3 a4 a5 u_5 z_1 x1 z_11 hz_11 H.size) (cwV 2 hts gX2_execute_X2_steer rfl rfl rfl (by decide +kernel) ⟨Nat.le_of_ble_eq_true rfl, Nat.le_of_ble_eq_true rfl⟩) (gPreV (ci := 1) (C := RX2) (T := TX2) (N := 6) hP hK hD [0, 1, 2, 3, 4, 5] (by decide) rfl 0 rfl rfl) rfl rfl hl.1 rfl (lv_room (Nat.le_of_ble_eq_true rfl)) dX2_execute_54 ⟨Nat.le_of_ble_eq_true rfl, Nat.le_of_ble_eq_true rfl⟩) hP hD hS hA [0, 1, 2, 3, 4, 5] [] [0, 1, 2, 3, 4, 5] rfl rfl (by decide) (by decide) rfl (by decide) (fun H locs hP hD hS => ?_)
      refine lv_goto (tgt := 66) hx hb dX2_execute_57 (by decide) ?_
      have hz := Option.some.inj hf
      subst hz
      exact gRetV hx hb hr hlocks hK hP hD hS rfl dX2_execute_66
  · replace hf := pI_f c_7 hf
    refine lv_aload_n hx hb dX2_execute_35 rfl (lv_at hl 1 rfl) ?_
    refine lv_iload_n hx hb dX2_execute_36 rfl (lv_at hl 0 rfl) ?_
    refine lv_iload_n hx hb dX2_execute_37 rfl (lv_at hl 2 rfl) ?_
    obtain ⟨z_12, hz_12, hf⟩ := pB_out hf
    refine gV (w' := (wG a0 a1 a2 a3 a4 a5 cI z_12)) (va_runV (As := [.int z_1, .int x1]) (rest := []) ⟨hx, hb, hml, hown, hts⟩ (ctX2_calculate l D cI a0 a1 a2 a3 a4 a5 u_5 z_1 x1 z_12 hz_12 H.size) (cwV 2 hts gX2_execute_X2_calculate rfl rfl rfl (by decide +kernel) ⟨Nat.le_of_ble_eq_true rfl, Nat.le_of_ble_eq_true rfl⟩) (gPreV (ci := 1) (C := RX2) (T := TX2) (N := 6) hP hK hD [0, 1, 2, 3, 4, 5] (by decide) rfl 0 rfl rfl) rfl rfl hl.1 rfl (lv_room (Nat.le_of_ble_eq_true rfl)) dX2_execute_38 ⟨Nat.le_of_ble_eq_true rfl, Nat.le_of_ble_eq_true rfl⟩) hP hD hS hA [0, 1, 2, 3, 4, 5] [] [0, 1, 2, 3, 4, 5] rfl rfl (by decide) (by decide) rfl (by decide) (fun H locs hP hD hS => ?_)
    refine lv_goto (tgt := 66) hx hb dX2_execute_41 (by decide) ?_
    have hz := Option.some.inj hf
    subst hz
    exact gRetV hx hb hr hlocks hK hP hD hS rfl dX2_execute_66
theorem ctX2_execute (l : Launch) (D : va_G) (cI : ClassId) (a0 a1 a2 a3 a4 a5 : Nat) (u : TG) (x1 : Int32) (z : TG) (hz : fX2_execute u x1 = some z) : CtV l yX2_execute wsX2_execute rmX2_execute D vwCl [(cI, .int)] [.ref a0, .int x1] (wG a0 a1 a2 a3 a4 a5 cI u) (wG a0 a1 a2 a3 a4 a5 cI z) :=
  ctV_of (cc := cX2_execute) (maxL := 3) (ret := none) (by decide) rfl (Nat.le_of_ble_eq_true rfl) (fun p e s m below meth c A ls C hl hP hD hS => wkX2_execute C z _ _ s.heap [] ls hz hP hD hS hl)
abbrev rmX2_outputAt : Room := { frames := 0, cells := 0, slots := 0, locals := 0 }
theorem inX2_outputAt_X2 : ∀ w ∈ wsX20, w ∈ wsX2_outputAt := by decide +kernel
set_option maxRecDepth 100000 in
set_option maxHeartbeats 4000000 in
theorem wkX2_outputAt {p : Program} {l : Launch} {e : Env} {s : State} {m : MethodId} {args : Array Value} {below : List Frame} {meth : Method} {c : Code} {D : va_G} {cI : ClassId} {A : Nat → Prop} {a0 a1 a2 a3 a4 a5 : Nat} (C : cxt p s m args meth c cX2_outputAt (some .int) 2 RX2 wsX2_outputAt D vwCl [(cI, .int)] A) : ∀ (z : Int32) (u : TG) (x1 : Int32) (H : Heap) (locs : List Loc) (ls : Array Slot), fX2_outputAt u x1 = some z → va_P D vwCl (wG a0 a1 a2 a3 a4 a5 cI u) H → va_D A (wG a0 a1 a2 a3 a4 a5 cI u) → va_S A s.heap H locs → lv_has ls 2 [(0, .ref a0), (1, .int x1)] → W p l e rmX2_outputAt s m args below meth c H locs 0 0 (MQ below (oI D vwCl [(cI, .int)] A z (wG a0 a1 a2 a3 a4 a5 cI u)) args s 0 0 A) (F0 m 0 ls []) := by
  have C0 := C
  obtain ⟨hx, hb, hr, hml, hown, hts, hlocks, hK, hA⟩ := C
  intro z u x1 H locs ls hf hP hD hS hl
  unfold fX2_outputAt at hf
  refine lv_iload_n hx hb dX2_outputAt_0 rfl (lv_at hl 1 rfl) ?_
  refine lv_if_lt (tgt := 27) hx hb dX2_outputAt_1 (by decide) (fun c_1 => ?_) (fun c_1 => ?_)
  · replace hf := pI_t c_1 hf
    refine lv_iconst (v := (-1)) hx hb dX2_outputAt_27 (by decide) ?_
    have hz := Option.some.inj hf
    subst hz
    exact gRetI hx hb hr hlocks hK hP hD hS rfl rfl dX2_outputAt_28
  · replace hf := pI_f c_1 hf
    refine lv_iload_n hx hb dX2_outputAt_4 rfl (lv_at hl 1 rfl) ?_
    refine lv_aload_n hx hb dX2_outputAt_5 rfl (lv_at hl 0 rfl) ?_
    refine va_get (D := D) (ci := 1) (v := .int (gG_given u)) (C := RX2) (T := TX2) (N := 6) hx hb hts inX2_outputAt_X2 hown hK hP 0 rfl rfl 4 (by decide) (hts (.fieldLink RX2 34 "BlockCache$Guest" "given" "I") (by decide +kernel)) (fun _ h9 => h9) rfl dX2_outputAt_6 ?_
    refine lv_icmp_ge (tgt := 27) hx hb dX2_outputAt_9 (by decide) (fun c_2 => ?_) (fun c_2 => ?_)
    · replace hf := pI_t c_2 hf
      refine lv_iconst (v := (-1)) hx hb dX2_outputAt_27 (by decide) ?_
      have hz := Option.some.inj hf
      subst hz
      exact gRetI hx hb hr hlocks hK hP hD hS rfl rfl dX2_outputAt_28
    · replace hf := pI_f c_2 hf
      refine lv_iload_n hx hb dX2_outputAt_12 rfl (lv_at hl 1 rfl) ?_
      refine lv_bipush (v := 100) hx hb dX2_outputAt_13 (by decide) ?_
      refine lv_icmp_ge (tgt := 27) hx hb dX2_outputAt_15 (by decide) (fun c_3 => ?_) (fun c_3 => ?_)
      · replace hf := pI_t c_3 hf
        refine lv_iconst (v := (-1)) hx hb dX2_outputAt_27 (by decide) ?_
        have hz := Option.some.inj hf
        subst hz
        exact gRetI hx hb hr hlocks hK hP hD hS rfl rfl dX2_outputAt_28
      · replace hf := pI_f c_3 hf
        refine lv_aload_n hx hb dX2_outputAt_18 rfl (lv_at hl 0 rfl) ?_
        refine va_get (D := D) (ci := 1) (v := .ref a5) (C := RX2) (T := TX2) (N := 6) hx hb hts inX2_outputAt_X2 hown hK hP 0 rfl rfl 3 (by decide) (hts (.fieldLink RX2 27 "BlockCache$Guest" "outputs" "[I") (by decide +kernel)) (fun _ h9 => h9) rfl dX2_outputAt_19 ?_
        refine lv_iload_n hx hb dX2_outputAt_22 rfl (lv_at hl 1 rfl) ?_
        obtain ⟨h_4, hf⟩ := pIn_out hf
        refine va_iald hx hb hK hP 5 0 rfl rfl h_4 dX2_outputAt_23 ?_
        refine lv_goto (tgt := 28) hx hb dX2_outputAt_24 (by decide) ?_
        have hz := Option.some.inj hf
        subst hz
        exact gRetI hx hb hr hlocks hK hP hD hS rfl rfl dX2_outputAt_28
theorem ctX2_outputAt (l : Launch) (D : va_G) (cI : ClassId) (a0 a1 a2 a3 a4 a5 : Nat) (u : TG) (x1 : Int32) (z : Int32) (hz : fX2_outputAt u x1 = some z) : CtI l yX2_outputAt wsX2_outputAt rmX2_outputAt D vwCl [(cI, .int)] [.ref a0, .int x1] (wG a0 a1 a2 a3 a4 a5 cI u) z (wG a0 a1 a2 a3 a4 a5 cI u) :=
  ctI_of (cc := cX2_outputAt) (maxL := 2) (ret := (some .int)) (by decide) rfl (Nat.le_of_ble_eq_true rfl) (fun p e s m below meth c A ls C hl hP hD hS => wkX2_outputAt C z _ _ s.heap [] ls hz hP hD hS hl)

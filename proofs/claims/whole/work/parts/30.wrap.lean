abbrev wBo (a0 a1 a2 a3 a4 a5 a6 a7 a8 a9 a10 a11 a12 a13 a14 a15 a16 b0 : Nat) (cI cL : ClassId) (u : TB) (g : Nat → Int64) : va_W := [(a0, .inr (3, [.ref a1, .ref a7, .ref a15, .int (gB_latestRequest u), .int (gB_executed u), .int (gB_invalidated u), .int (gB_lookups u), .int (gB_interpreted u), .int (gB_interrupts u), .int (gB_ending u), .int (gB_exit u)])), (a1, .inr (1, [.ref a2, .ref a3, .ref a4, .ref a6, .int (gG_given (gB_guest u)), .int (gG_written (gB_guest u))])), (a2, .inl (cI, 10, .inl (gG_state (gB_guest u)))), (a3, .inl (cI, 256, .inl (gG_memory (gB_guest u)))), (a4, .inr (2, [.ref a5, .int (gQ_start (gG_inputs (gB_guest u))), .int (gQ_many (gG_inputs (gB_guest u)))])), (a5, .inl (cI, 32, .inl (gQ_ring (gG_inputs (gB_guest u))))), (a6, .inl (cI, 100, .inl (gG_outputs (gB_guest u)))), (a7, .inr (0, [.ref a8, .ref a9, .ref a10, .ref a11, .ref a12, .ref a13, .ref a14, .int (gC_limit (gB_cache u)), .int (gC_blocks (gB_cache u)), .int (gC_filled (gB_cache u)), .int (gC_translated (gB_cache u)), .int (gC_flushes (gB_cache u)), .int (gC_deadFlags (gB_cache u))])), (a8, .inl (cI, 2048, .inl (gC_code (gB_cache u)))), (a9, .inl (cI, 256, .inl (gC_length (gB_cache u)))), (a10, .inl (cI, 256, .inl (gC_behind (gB_cache u)))), (a11, .inl (cI, 256, .inl (gC_size (gB_cache u)))), (a12, .inl (cI, 256, .inl (gC_serial (gB_cache u)))), (a13, .inl (cI, 512, .inl (gC_exitPlace (gB_cache u)))), (a14, .inl (cI, 512, .inl (gC_linkedSerial (gB_cache u)))), (a15, .inr (2, [.ref a16, .int (gQ_start (gB_requests u)), .int (gQ_many (gB_requests u))])), (a16, .inl (cI, 16, .inl (gQ_ring (gB_requests u)))), (b0, .inl (cL, 1, .inr (.inl g)))]
def CtW (l : Launch) (y : MethodName) (ws : List Cond) (rm : Room) (D : va_G) (cl : List vw_C) (tys : List (ClassId × FieldType)) (as : List Value) (w : va_W) (r0 : Int32) (w' : va_W) : Prop :=
  ∀ sz : Nat, Met l y ws rm (va_Pc as (pcX D cl tys sz w)) (oI D cl tys (va_A w sz) r0 w') 1 6 (va_A w sz)
theorem exc1 {k : Int32} {E : String} (h : excN k = some E) (h1 : k = 1) : E = "java/lang/IllegalArgumentException" := by
  subst h1
  exact (Option.some.inj h).symm
theorem exc2 {k : Int32} {E : String} (h : excN k = some E) (h1 : ¬ k = 1) : k = 2 ∧ E = "java/lang/IllegalStateException" := by
  unfold excN at h
  rw [if_neg h1] at h
  by_cases h2 : k = 2
  · rw [if_pos h2] at h
    exact ⟨h2, (Option.some.inj h).symm⟩
  · rw [if_neg h2] at h; cases h
theorem ne10 {k : Int32} (h : k = 1) : ¬ k = 0 := by subst h; decide
theorem ne20 {k : Int32} (h : k = 2) : ¬ k = 0 := by subst h; decide
abbrev rmL_poke : Room := { frames := 7, cells := 1, slots := 6, locals := 106 }
def fL_poke (u : TB) (x1 : Int32) (x2 : Int32) (x3 : Int32) : Option (Int32 × TB) :=
  pB (fX4_poke u x1 x2 x3) (fun z => if z.1 = 0 then some (0, z.2) else if z.1 = 1 then some (1, z.2) else none)
set_option maxRecDepth 100000 in
set_option maxHeartbeats 4000000 in
theorem ctL_poke (l : Launch) (htr : l.stackTraces = false) (D : va_G) (cI : ClassId) (a0 a1 a2 a3 a4 a5 a6 a7 a8 a9 a10 a11 a12 a13 a14 a15 a16 : Nat) (u : TB) (x1 : Int32) (x2 : Int32) (x3 : Int32) (z : Int32 × TB) (hz : fL_poke u x1 x2 x3 = some z) : CtW l yL_poke wsL_poke rmL_poke D vwCl [(cI, .int)] [.ref a0, .int x1, .int x2, .int x3] (wB a0 a1 a2 a3 a4 a5 a6 a7 a8 a9 a10 a11 a12 a13 a14 a15 a16 cI u) z.1 (wB a0 a1 a2 a3 a4 a5 a6 a7 a8 a9 a10 a11 a12 a13 a14 a15 a16 cI z.2) := by
  intro sz
  refine va_MetW (cc := cL_poke) (maxL := 5) (ret := some .int) (hh := [(0, 7, 10, 13)]) (by decide) rfl ?_
  intro p e s m args below meth c s₁ B hml hv
  obtain ⟨rfl, ⟨hsz, hP, hK, hD0⟩, hX⟩ := hv
  have hx := B.exec
  have hb := B.bytes
  have hr := B.returns
  have hts := atoms_spec (ws := wsL_poke) B.pre
  have htab : c.exceptionTable.toList = [⟨0, 7, 10, 13⟩] := vx_table (x := yL_poke) B (hts (.codeWith yL_poke cL_poke 5 (some .int) [(0, 7, 10, 13)]) List.mem_cons_self)
  have hown : s.vm.findClass RL = some m.cls := findClass_of_methodNamed B.named
  have hlocks := B.notSynchronized
  subst hsz
  have hD := hD0.self (sz := s.heap.size)
  generalize hAe : va_A (wB a0 a1 a2 a3 a4 a5 a6 a7 a8 a9 a10 a11 a12 a13 a14 a15 a16 cI u) s.heap.size = A at hD hX ⊢
  have hA : ∀ q : Nat, s.heap.size ≤ q → A q := fun q h => by rw [← hAe]; exact Or.inr h
  have hS : va_S A s.heap s.heap [] := va_S.rf
  have hl := lv_entry ([.ref a0, .int x1, .int x2, .int x3]) (n := 5) (Nat.le_of_ble_eq_true rfl)
  rw [lg_entry_eq]
  generalize (lg_sl ([.ref a0, .int x1, .int x2, .int x3]) ++ List.replicate (5 - (lg_sl ([.ref a0, .int x1, .int x2, .int x3])).length) Slot.unset).toArray = ls at hl ⊢
  have hl : lv_has ls 5 [(0, .ref a0), (1, .int x1), (2, .int x2), (3, .int x3)] := hl
  generalize hHe : s.heap = H at hP ⊢
  have hS : va_S A s.heap H [] := by rw [← hHe]; exact va_S.rf
  refine lv_aload_n hx hb dL_poke_0 rfl (lv_at hl 0 rfl) ?_
  refine lv_iload_n hx hb dL_poke_1 rfl (lv_at hl 1 rfl) ?_
  refine lv_iload_n hx hb dL_poke_2 rfl (lv_at hl 2 rfl) ?_
  refine lv_iload_n hx hb dL_poke_3 rfl (lv_at hl 3 rfl) ?_
  obtain ⟨z1, hz1, hf⟩ := pB_out hz
  refine gXV (w' := (wB a0 a1 a2 a3 a4 a5 a6 a7 a8 a9 a10 a11 a12 a13 a14 a15 a16 cI (z1.2))) (vx_runV (As := [.int x1, .int x2, .int x3]) (rest := []) ⟨hx, hb, hml, hown, hts⟩ (ctX4_poke l htr D cI a0 a1 a2 a3 a4 a5 a6 a7 a8 a9 a10 a11 a12 a13 a14 a15 a16 u x1 x2 x3 z1 hz1 H.size) (cwV 3 hts gL_poke_X4_poke rfl rfl rfl (by decide +kernel) ⟨Nat.le_of_ble_eq_true rfl, Nat.le_of_ble_eq_true rfl⟩) (gPreVX (ci := 3) (C := RX4) (T := TX4) (N := 11) hX hS hA hP hK hD [0, 1, 2, 3, 4, 5, 6, 7, 8, 9, 10, 11, 12, 13, 14, 15, 16] (by decide) rfl 0 rfl rfl) rfl rfl hl.1 rfl (lv_room (Nat.le_of_ble_eq_true rfl)) dL_poke_4 ⟨Nat.le_of_ble_eq_true rfl, Nat.le_of_ble_eq_true rfl⟩) hP hD hS hA [0, 1, 2, 3, 4, 5, 6, 7, 8, 9, 10, 11, 12, 13, 14, 15, 16] [] [0, 1, 2, 3, 4, 5, 6, 7, 8, 9, 10, 11, 12, 13, 14, 15, 16] rfl rfl (by decide) (by decide) rfl (by decide) (fun E ce q9 H locs he hP hD hS h1 h2 h3 => ?_) (fun k0 H locs hP hD hS => ?_)
  · by_cases k1 : z1.1 = 1
    · obtain rfl := exc1 he k1
      replace hf := pI_t k1 (pI_f (ne10 k1) hf)
      refine xc_first (name := "java/lang/IllegalArgumentException") hown ⟨0, 7, 10, 13⟩ [] htab (by decide) (by decide) (hts (.classLink RL 13 "java/lang/IllegalArgumentException") (by decide +kernel)) (hX.2.2.1 _ (by decide +kernel)) h1 h2 h3 ?_
      refine lv_astore (lv' := [(4, .ref q9), (0, .ref a0), (1, .int x1), (2, .int x2), (3, .int x3)]) hx hb dL_poke_10 hl (by decide) rfl (fun ls hl => ?_)
      refine lv_iconst (v := 1) hx hb dL_poke_12 (by decide) ?_
      have hz2 := Option.some.inj hf
      subst hz2
      exact gRetI hx hb hr hlocks hK hP hD hS rfl rfl dL_poke_13
    · obtain ⟨k2, rfl⟩ := exc2 he k1
      replace hf := pI_f k1 (pI_f (ne20 k2) hf)
      cases hf
  · replace hf := pI_t k0 hf
    refine lv_goto (tgt := 14) hx hb dL_poke_7 (by decide) ?_
    refine lv_iconst (v := 0) hx hb dL_poke_14 (by decide) ?_
    have hz2 := Option.some.inj hf
    subst hz2
    exact gRetI hx hb hr hlocks hK hP hD hS rfl rfl dL_poke_15
abbrev rmL_peek : Room := { frames := 7, cells := 1, slots := 6, locals := 102 }
def fL_peek (u : TB) (x1 : Int32) (g : Nat → Int64) : Option (Int32 × TB × (Nat → Int64)) :=
  pB (fX4_peek u x1) (fun z => if z.1 = 0 then some (0, u, vp_updL g (0 : Int32).toNatClampNeg (z.2).toInt64) else if z.1 = 1 then some (1, u, g) else none)
set_option maxRecDepth 100000 in
set_option maxHeartbeats 4000000 in
theorem ctL_peek (l : Launch) (htr : l.stackTraces = false) (D : va_G) (cI cL : ClassId) (a0 a1 a2 a3 a4 a5 a6 a7 a8 a9 a10 a11 a12 a13 a14 a15 a16 b0 : Nat) (u : TB) (x1 : Int32) (g : Nat → Int64) (z : Int32 × TB × (Nat → Int64)) (hz : fL_peek u x1 g = some z) : CtW l yL_peek wsL_peek rmL_peek D vwCl [(cI, .int), (cL, .long)] [.ref a0, .int x1, .ref b0] (wBo a0 a1 a2 a3 a4 a5 a6 a7 a8 a9 a10 a11 a12 a13 a14 a15 a16 b0 cI cL u g) z.1 (wBo a0 a1 a2 a3 a4 a5 a6 a7 a8 a9 a10 a11 a12 a13 a14 a15 a16 b0 cI cL z.2.1 z.2.2) := by
  intro sz
  refine va_MetW (cc := cL_peek) (maxL := 4) (ret := some .int) (hh := [(0, 9, 12, 13)]) (by decide) rfl ?_
  intro p e s m args below meth c s₁ B hml hv
  obtain ⟨rfl, ⟨hsz, hP, hK, hD0⟩, hX⟩ := hv
  have hx := B.exec
  have hb := B.bytes
  have hr := B.returns
  have hts := atoms_spec (ws := wsL_peek) B.pre
  have htab : c.exceptionTable.toList = [⟨0, 9, 12, 13⟩] := vx_table (x := yL_peek) B (hts (.codeWith yL_peek cL_peek 4 (some .int) [(0, 9, 12, 13)]) List.mem_cons_self)
  have hown : s.vm.findClass RL = some m.cls := findClass_of_methodNamed B.named
  have hlocks := B.notSynchronized
  subst hsz
  have hD := hD0.self (sz := s.heap.size)
  generalize hAe : va_A (wBo a0 a1 a2 a3 a4 a5 a6 a7 a8 a9 a10 a11 a12 a13 a14 a15 a16 b0 cI cL u g) s.heap.size = A at hD hX ⊢
  have hA : ∀ q : Nat, s.heap.size ≤ q → A q := fun q h => by rw [← hAe]; exact Or.inr h
  have hS : va_S A s.heap s.heap [] := va_S.rf
  have hl := lv_entry ([.ref a0, .int x1, .ref b0]) (n := 4) (Nat.le_of_ble_eq_true rfl)
  rw [lg_entry_eq]
  generalize (lg_sl ([.ref a0, .int x1, .ref b0]) ++ List.replicate (4 - (lg_sl ([.ref a0, .int x1, .ref b0])).length) Slot.unset).toArray = ls at hl ⊢
  have hl : lv_has ls 4 [(0, .ref a0), (1, .int x1), (2, .ref b0)] := hl
  generalize hHe : s.heap = H at hP ⊢
  have hS : va_S A s.heap H [] := by rw [← hHe]; exact va_S.rf
  refine lv_aload_n hx hb dL_peek_0 rfl (lv_at hl 2 rfl) ?_
  refine lv_iconst (v := 0) hx hb dL_peek_1 (by decide) ?_
  refine lv_aload_n hx hb dL_peek_2 rfl (lv_at hl 0 rfl) ?_
  refine lv_iload_n hx hb dL_peek_3 rfl (lv_at hl 1 rfl) ?_
  obtain ⟨z1, hz1, hf⟩ := pB_out hz
  refine gXI (w' := (wBo a0 a1 a2 a3 a4 a5 a6 a7 a8 a9 a10 a11 a12 a13 a14 a15 a16 b0 cI cL u g)) (vx_runV (As := [.int x1]) (rest := [.int 0, .ref b0]) ⟨hx, hb, hml, hown, hts⟩ (ctX4_peek l htr D cI a0 a1 a2 a3 a4 a5 a6 a7 a8 a9 a10 a11 a12 a13 a14 a15 a16 u x1 z1 hz1 H.size) (cwV 1 hts gL_peek_X4_peek rfl rfl rfl (by decide +kernel) ⟨Nat.le_of_ble_eq_true rfl, Nat.le_of_ble_eq_true rfl⟩) (gPreVX (ci := 3) (C := RX4) (T := TX4) (N := 11) hX hS hA hP (hK.sub [0] rfl) hD [0, 1, 2, 3, 4, 5, 6, 7, 8, 9, 10, 11, 12, 13, 14, 15, 16] (by decide) rfl 0 rfl rfl) rfl rfl hl.1 rfl (lv_room (Nat.le_of_ble_eq_true rfl)) dL_peek_4 ⟨Nat.le_of_ble_eq_true rfl, Nat.le_of_ble_eq_true rfl⟩) hP hD hS hA [0, 1, 2, 3, 4, 5, 6, 7, 8, 9, 10, 11, 12, 13, 14, 15, 16] [17] [1, 2, 3, 4, 5, 6, 7, 8, 9, 10, 11, 12, 13, 14, 15, 16, 17, 0] rfl rfl (by decide) (by decide) rfl (by decide) (fun E ce q9 H locs he hP hD hS h1 h2 h3 => ?_) (fun k0 H locs hP hD hS => ?_)
  · by_cases k1 : z1.1 = 1
    · obtain rfl := exc1 he k1
      replace hf := pI_t k1 (pI_f (ne10 k1) hf)
      refine xc_first (name := "java/lang/IllegalArgumentException") hown ⟨0, 9, 12, 13⟩ [] htab (by decide) (by decide) (hts (.classLink RL 13 "java/lang/IllegalArgumentException") (by decide +kernel)) (hX.2.2.1 _ (by decide +kernel)) h1 h2 h3 ?_
      refine lv_astore_n (lv' := [(3, .ref q9), (0, .ref a0), (1, .int x1), (2, .ref b0)]) hx hb dL_peek_12 rfl hl (by decide) rfl (fun ls hl => ?_)
      refine lv_iconst (v := 1) hx hb dL_peek_13 (by decide) ?_
      have hz2 := Option.some.inj hf
      subst hz2
      exact gRetI hx hb hr hlocks hK hP hD hS rfl rfl dL_peek_14
    · obtain ⟨k2, rfl⟩ := exc2 he k1
      replace hf := pI_f k1 (pI_f (ne20 k2) hf)
      cases hf
  · replace hf := pI_t k0 hf
    refine lv_i2l (v := (z1.2).toInt64) hx hb dL_peek_7 rfl ?_
    refine va_last hx hb hK hP hD hS 17 1 rfl rfl (show vp_in 0 1 by unfold vp_in; decide) dL_peek_8 (fun H locs hP hD hS => ?_)
    replace hP : va_P D vwCl (wBo a0 a1 a2 a3 a4 a5 a6 a7 a8 a9 a10 a11 a12 a13 a14 a15 a16 b0 cI cL u (vp_updL g (0 : Int32).toNatClampNeg (z1.2).toInt64)) H := hP
    replace hD : va_D A (wBo a0 a1 a2 a3 a4 a5 a6 a7 a8 a9 a10 a11 a12 a13 a14 a15 a16 b0 cI cL u (vp_updL g (0 : Int32).toNatClampNeg (z1.2).toInt64)) := hD
    refine lv_goto (tgt := 15) hx hb dL_peek_9 (by decide) ?_
    refine lv_iconst (v := 0) hx hb dL_peek_15 (by decide) ?_
    have hz2 := Option.some.inj hf
    subst hz2
    exact gRetI hx hb hr hlocks hK hP hD hS rfl rfl dL_peek_16
abbrev rmL_set : Room := { frames := 7, cells := 1, slots := 6, locals := 103 }
def fL_set (u : TB) (x1 : Int32) (x2 : Int32) : Option (Int32 × TB) :=
  pB (fX4_set u x1 x2) (fun z => if z.1 = 0 then some (0, z.2) else if z.1 = 1 then some (1, z.2) else none)
set_option maxRecDepth 100000 in
set_option maxHeartbeats 4000000 in
theorem ctL_set (l : Launch) (htr : l.stackTraces = false) (D : va_G) (cI : ClassId) (a0 a1 a2 a3 a4 a5 a6 a7 a8 a9 a10 a11 a12 a13 a14 a15 a16 : Nat) (u : TB) (x1 : Int32) (x2 : Int32) (z : Int32 × TB) (hz : fL_set u x1 x2 = some z) : CtW l yL_set wsL_set rmL_set D vwCl [(cI, .int)] [.ref a0, .int x1, .int x2] (wB a0 a1 a2 a3 a4 a5 a6 a7 a8 a9 a10 a11 a12 a13 a14 a15 a16 cI u) z.1 (wB a0 a1 a2 a3 a4 a5 a6 a7 a8 a9 a10 a11 a12 a13 a14 a15 a16 cI z.2) := by
  intro sz
  refine va_MetW (cc := cL_set) (maxL := 4) (ret := some .int) (hh := [(0, 6, 9, 13)]) (by decide) rfl ?_
  intro p e s m args below meth c s₁ B hml hv
  obtain ⟨rfl, ⟨hsz, hP, hK, hD0⟩, hX⟩ := hv
  have hx := B.exec
  have hb := B.bytes
  have hr := B.returns
  have hts := atoms_spec (ws := wsL_set) B.pre
  have htab : c.exceptionTable.toList = [⟨0, 6, 9, 13⟩] := vx_table (x := yL_set) B (hts (.codeWith yL_set cL_set 4 (some .int) [(0, 6, 9, 13)]) List.mem_cons_self)
  have hown : s.vm.findClass RL = some m.cls := findClass_of_methodNamed B.named
  have hlocks := B.notSynchronized
  subst hsz
  have hD := hD0.self (sz := s.heap.size)
  generalize hAe : va_A (wB a0 a1 a2 a3 a4 a5 a6 a7 a8 a9 a10 a11 a12 a13 a14 a15 a16 cI u) s.heap.size = A at hD hX ⊢
  have hA : ∀ q : Nat, s.heap.size ≤ q → A q := fun q h => by rw [← hAe]; exact Or.inr h
  have hS : va_S A s.heap s.heap [] := va_S.rf
  have hl := lv_entry ([.ref a0, .int x1, .int x2]) (n := 4) (Nat.le_of_ble_eq_true rfl)
  rw [lg_entry_eq]
  generalize (lg_sl ([.ref a0, .int x1, .int x2]) ++ List.replicate (4 - (lg_sl ([.ref a0, .int x1, .int x2])).length) Slot.unset).toArray = ls at hl ⊢
  have hl : lv_has ls 4 [(0, .ref a0), (1, .int x1), (2, .int x2)] := hl
  generalize hHe : s.heap = H at hP ⊢
  have hS : va_S A s.heap H [] := by rw [← hHe]; exact va_S.rf
  refine lv_aload_n hx hb dL_set_0 rfl (lv_at hl 0 rfl) ?_
  refine lv_iload_n hx hb dL_set_1 rfl (lv_at hl 1 rfl) ?_
  refine lv_iload_n hx hb dL_set_2 rfl (lv_at hl 2 rfl) ?_
  obtain ⟨z1, hz1, hf⟩ := pB_out hz
  refine gXV (w' := (wB a0 a1 a2 a3 a4 a5 a6 a7 a8 a9 a10 a11 a12 a13 a14 a15 a16 cI (z1.2))) (vx_runV (As := [.int x1, .int x2]) (rest := []) ⟨hx, hb, hml, hown, hts⟩ (ctX4_set l htr D cI a0 a1 a2 a3 a4 a5 a6 a7 a8 a9 a10 a11 a12 a13 a14 a15 a16 u x1 x2 z1 hz1 H.size) (cwV 2 hts gL_set_X4_set rfl rfl rfl (by decide +kernel) ⟨Nat.le_of_ble_eq_true rfl, Nat.le_of_ble_eq_true rfl⟩) (gPreVX (ci := 3) (C := RX4) (T := TX4) (N := 11) hX hS hA hP hK hD [0, 1, 2, 3, 4, 5, 6, 7, 8, 9, 10, 11, 12, 13, 14, 15, 16] (by decide) rfl 0 rfl rfl) rfl rfl hl.1 rfl (lv_room (Nat.le_of_ble_eq_true rfl)) dL_set_3 ⟨Nat.le_of_ble_eq_true rfl, Nat.le_of_ble_eq_true rfl⟩) hP hD hS hA [0, 1, 2, 3, 4, 5, 6, 7, 8, 9, 10, 11, 12, 13, 14, 15, 16] [] [0, 1, 2, 3, 4, 5, 6, 7, 8, 9, 10, 11, 12, 13, 14, 15, 16] rfl rfl (by decide) (by decide) rfl (by decide) (fun E ce q9 H locs he hP hD hS h1 h2 h3 => ?_) (fun k0 H locs hP hD hS => ?_)
  · by_cases k1 : z1.1 = 1
    · obtain rfl := exc1 he k1
      replace hf := pI_t k1 (pI_f (ne10 k1) hf)
      refine xc_first (name := "java/lang/IllegalArgumentException") hown ⟨0, 6, 9, 13⟩ [] htab (by decide) (by decide) (hts (.classLink RL 13 "java/lang/IllegalArgumentException") (by decide +kernel)) (hX.2.2.1 _ (by decide +kernel)) h1 h2 h3 ?_
      refine lv_astore_n (lv' := [(3, .ref q9), (0, .ref a0), (1, .int x1), (2, .int x2)]) hx hb dL_set_9 rfl hl (by decide) rfl (fun ls hl => ?_)
      refine lv_iconst (v := 1) hx hb dL_set_10 (by decide) ?_
      have hz2 := Option.some.inj hf
      subst hz2
      exact gRetI hx hb hr hlocks hK hP hD hS rfl rfl dL_set_11
    · obtain ⟨k2, rfl⟩ := exc2 he k1
      replace hf := pI_f k1 (pI_f (ne20 k2) hf)
      cases hf
  · replace hf := pI_t k0 hf
    refine lv_goto (tgt := 12) hx hb dL_set_6 (by decide) ?_
    refine lv_iconst (v := 0) hx hb dL_set_12 (by decide) ?_
    have hz2 := Option.some.inj hf
    subst hz2
    exact gRetI hx hb hr hlocks hK hP hD hS rfl rfl dL_set_13
abbrev rmL_get : Room := { frames := 7, cells := 1, slots := 6, locals := 102 }
def fL_get (u : TB) (x1 : Int32) (g : Nat → Int64) : Option (Int32 × TB × (Nat → Int64)) :=
  pB (fX4_get u x1) (fun z => if z.1 = 0 then some (0, u, vp_updL g (0 : Int32).toNatClampNeg (z.2).toInt64) else if z.1 = 1 then some (1, u, g) else none)
set_option maxRecDepth 100000 in
set_option maxHeartbeats 4000000 in
theorem ctL_get (l : Launch) (htr : l.stackTraces = false) (D : va_G) (cI cL : ClassId) (a0 a1 a2 a3 a4 a5 a6 a7 a8 a9 a10 a11 a12 a13 a14 a15 a16 b0 : Nat) (u : TB) (x1 : Int32) (g : Nat → Int64) (z : Int32 × TB × (Nat → Int64)) (hz : fL_get u x1 g = some z) : CtW l yL_get wsL_get rmL_get D vwCl [(cI, .int), (cL, .long)] [.ref a0, .int x1, .ref b0] (wBo a0 a1 a2 a3 a4 a5 a6 a7 a8 a9 a10 a11 a12 a13 a14 a15 a16 b0 cI cL u g) z.1 (wBo a0 a1 a2 a3 a4 a5 a6 a7 a8 a9 a10 a11 a12 a13 a14 a15 a16 b0 cI cL z.2.1 z.2.2) := by
  intro sz
  refine va_MetW (cc := cL_get) (maxL := 4) (ret := some .int) (hh := [(0, 9, 12, 13)]) (by decide) rfl ?_
  intro p e s m args below meth c s₁ B hml hv
  obtain ⟨rfl, ⟨hsz, hP, hK, hD0⟩, hX⟩ := hv
  have hx := B.exec
  have hb := B.bytes
  have hr := B.returns
  have hts := atoms_spec (ws := wsL_get) B.pre
  have htab : c.exceptionTable.toList = [⟨0, 9, 12, 13⟩] := vx_table (x := yL_get) B (hts (.codeWith yL_get cL_get 4 (some .int) [(0, 9, 12, 13)]) List.mem_cons_self)
  have hown : s.vm.findClass RL = some m.cls := findClass_of_methodNamed B.named
  have hlocks := B.notSynchronized
  subst hsz
  have hD := hD0.self (sz := s.heap.size)
  generalize hAe : va_A (wBo a0 a1 a2 a3 a4 a5 a6 a7 a8 a9 a10 a11 a12 a13 a14 a15 a16 b0 cI cL u g) s.heap.size = A at hD hX ⊢
  have hA : ∀ q : Nat, s.heap.size ≤ q → A q := fun q h => by rw [← hAe]; exact Or.inr h
  have hS : va_S A s.heap s.heap [] := va_S.rf
  have hl := lv_entry ([.ref a0, .int x1, .ref b0]) (n := 4) (Nat.le_of_ble_eq_true rfl)
  rw [lg_entry_eq]
  generalize (lg_sl ([.ref a0, .int x1, .ref b0]) ++ List.replicate (4 - (lg_sl ([.ref a0, .int x1, .ref b0])).length) Slot.unset).toArray = ls at hl ⊢
  have hl : lv_has ls 4 [(0, .ref a0), (1, .int x1), (2, .ref b0)] := hl
  generalize hHe : s.heap = H at hP ⊢
  have hS : va_S A s.heap H [] := by rw [← hHe]; exact va_S.rf
  refine lv_aload_n hx hb dL_get_0 rfl (lv_at hl 2 rfl) ?_
  refine lv_iconst (v := 0) hx hb dL_get_1 (by decide) ?_
  refine lv_aload_n hx hb dL_get_2 rfl (lv_at hl 0 rfl) ?_
  refine lv_iload_n hx hb dL_get_3 rfl (lv_at hl 1 rfl) ?_
  obtain ⟨z1, hz1, hf⟩ := pB_out hz
  refine gXI (w' := (wBo a0 a1 a2 a3 a4 a5 a6 a7 a8 a9 a10 a11 a12 a13 a14 a15 a16 b0 cI cL u g)) (vx_runV (As := [.int x1]) (rest := [.int 0, .ref b0]) ⟨hx, hb, hml, hown, hts⟩ (ctX4_get l htr D cI a0 a1 a2 a3 a4 a5 a6 a7 a8 a9 a10 a11 a12 a13 a14 a15 a16 u x1 z1 hz1 H.size) (cwV 1 hts gL_get_X4_get rfl rfl rfl (by decide +kernel) ⟨Nat.le_of_ble_eq_true rfl, Nat.le_of_ble_eq_true rfl⟩) (gPreVX (ci := 3) (C := RX4) (T := TX4) (N := 11) hX hS hA hP (hK.sub [0] rfl) hD [0, 1, 2, 3, 4, 5, 6, 7, 8, 9, 10, 11, 12, 13, 14, 15, 16] (by decide) rfl 0 rfl rfl) rfl rfl hl.1 rfl (lv_room (Nat.le_of_ble_eq_true rfl)) dL_get_4 ⟨Nat.le_of_ble_eq_true rfl, Nat.le_of_ble_eq_true rfl⟩) hP hD hS hA [0, 1, 2, 3, 4, 5, 6, 7, 8, 9, 10, 11, 12, 13, 14, 15, 16] [17] [1, 2, 3, 4, 5, 6, 7, 8, 9, 10, 11, 12, 13, 14, 15, 16, 17, 0] rfl rfl (by decide) (by decide) rfl (by decide) (fun E ce q9 H locs he hP hD hS h1 h2 h3 => ?_) (fun k0 H locs hP hD hS => ?_)
  · by_cases k1 : z1.1 = 1
    · obtain rfl := exc1 he k1
      replace hf := pI_t k1 (pI_f (ne10 k1) hf)
      refine xc_first (name := "java/lang/IllegalArgumentException") hown ⟨0, 9, 12, 13⟩ [] htab (by decide) (by decide) (hts (.classLink RL 13 "java/lang/IllegalArgumentException") (by decide +kernel)) (hX.2.2.1 _ (by decide +kernel)) h1 h2 h3 ?_
      refine lv_astore_n (lv' := [(3, .ref q9), (0, .ref a0), (1, .int x1), (2, .ref b0)]) hx hb dL_get_12 rfl hl (by decide) rfl (fun ls hl => ?_)
      refine lv_iconst (v := 1) hx hb dL_get_13 (by decide) ?_
      have hz2 := Option.some.inj hf
      subst hz2
      exact gRetI hx hb hr hlocks hK hP hD hS rfl rfl dL_get_14
    · obtain ⟨k2, rfl⟩ := exc2 he k1
      replace hf := pI_f k1 (pI_f (ne20 k2) hf)
      cases hf
  · replace hf := pI_t k0 hf
    refine lv_i2l (v := (z1.2).toInt64) hx hb dL_get_7 rfl ?_
    refine va_last hx hb hK hP hD hS 17 1 rfl rfl (show vp_in 0 1 by unfold vp_in; decide) dL_get_8 (fun H locs hP hD hS => ?_)
    replace hP : va_P D vwCl (wBo a0 a1 a2 a3 a4 a5 a6 a7 a8 a9 a10 a11 a12 a13 a14 a15 a16 b0 cI cL u (vp_updL g (0 : Int32).toNatClampNeg (z1.2).toInt64)) H := hP
    replace hD : va_D A (wBo a0 a1 a2 a3 a4 a5 a6 a7 a8 a9 a10 a11 a12 a13 a14 a15 a16 b0 cI cL u (vp_updL g (0 : Int32).toNatClampNeg (z1.2).toInt64)) := hD
    refine lv_goto (tgt := 15) hx hb dL_get_9 (by decide) ?_
    refine lv_iconst (v := 0) hx hb dL_get_15 (by decide) ?_
    have hz2 := Option.some.inj hf
    subst hz2
    exact gRetI hx hb hr hlocks hK hP hD hS rfl rfl dL_get_16
abbrev rmL_input : Room := { frames := 7, cells := 1, slots := 6, locals := 102 }
def fL_input (u : TB) (x1 : Int32) (g : Nat → Int64) : Option (Int32 × TB × (Nat → Int64)) :=
  pB (fX4_input u x1) (fun z => if z.1 = 0 then some (0, z.2.2, vp_updL g (0 : Int32).toNatClampNeg (z.2.1).toInt64) else if z.1 = 1 then some (1, z.2.2, g) else if z.1 = 2 then some (2, z.2.2, g) else none)
set_option maxRecDepth 100000 in
set_option maxHeartbeats 4000000 in
theorem ctL_input (l : Launch) (htr : l.stackTraces = false) (D : va_G) (cI cL : ClassId) (a0 a1 a2 a3 a4 a5 a6 a7 a8 a9 a10 a11 a12 a13 a14 a15 a16 b0 : Nat) (u : TB) (x1 : Int32) (g : Nat → Int64) (z : Int32 × TB × (Nat → Int64)) (hz : fL_input u x1 g = some z) : CtW l yL_input wsL_input rmL_input D vwCl [(cI, .int), (cL, .long)] [.ref a0, .int x1, .ref b0] (wBo a0 a1 a2 a3 a4 a5 a6 a7 a8 a9 a10 a11 a12 a13 a14 a15 a16 b0 cI cL u g) z.1 (wBo a0 a1 a2 a3 a4 a5 a6 a7 a8 a9 a10 a11 a12 a13 a14 a15 a16 b0 cI cL z.2.1 z.2.2) := by
  intro sz
  refine va_MetW (cc := cL_input) (maxL := 4) (ret := some .int) (hh := [(0, 9, 12, 13), (0, 9, 15, 29)]) (by decide) rfl ?_
  intro p e s m args below meth c s₁ B hml hv
  obtain ⟨rfl, ⟨hsz, hP, hK, hD0⟩, hX⟩ := hv
  have hx := B.exec
  have hb := B.bytes
  have hr := B.returns
  have hts := atoms_spec (ws := wsL_input) B.pre
  have htab : c.exceptionTable.toList = [⟨0, 9, 12, 13⟩, ⟨0, 9, 15, 29⟩] := vx_table (x := yL_input) B (hts (.codeWith yL_input cL_input 4 (some .int) [(0, 9, 12, 13), (0, 9, 15, 29)]) List.mem_cons_self)
  have hown : s.vm.findClass RL = some m.cls := findClass_of_methodNamed B.named
  have hlocks := B.notSynchronized
  subst hsz
  have hD := hD0.self (sz := s.heap.size)
  generalize hAe : va_A (wBo a0 a1 a2 a3 a4 a5 a6 a7 a8 a9 a10 a11 a12 a13 a14 a15 a16 b0 cI cL u g) s.heap.size = A at hD hX ⊢
  have hA : ∀ q : Nat, s.heap.size ≤ q → A q := fun q h => by rw [← hAe]; exact Or.inr h
  have hS : va_S A s.heap s.heap [] := va_S.rf
  have hl := lv_entry ([.ref a0, .int x1, .ref b0]) (n := 4) (Nat.le_of_ble_eq_true rfl)
  rw [lg_entry_eq]
  generalize (lg_sl ([.ref a0, .int x1, .ref b0]) ++ List.replicate (4 - (lg_sl ([.ref a0, .int x1, .ref b0])).length) Slot.unset).toArray = ls at hl ⊢
  have hl : lv_has ls 4 [(0, .ref a0), (1, .int x1), (2, .ref b0)] := hl
  generalize hHe : s.heap = H at hP ⊢
  have hS : va_S A s.heap H [] := by rw [← hHe]; exact va_S.rf
  refine lv_aload_n hx hb dL_input_0 rfl (lv_at hl 2 rfl) ?_
  refine lv_iconst (v := 0) hx hb dL_input_1 (by decide) ?_
  refine lv_aload_n hx hb dL_input_2 rfl (lv_at hl 0 rfl) ?_
  refine lv_iload_n hx hb dL_input_3 rfl (lv_at hl 1 rfl) ?_
  obtain ⟨z1, hz1, hf⟩ := pB_out hz
  refine gXI (w' := (wBo a0 a1 a2 a3 a4 a5 a6 a7 a8 a9 a10 a11 a12 a13 a14 a15 a16 b0 cI cL (z1.2.2) g)) (vx_runV (As := [.int x1]) (rest := [.int 0, .ref b0]) ⟨hx, hb, hml, hown, hts⟩ (ctX4_input l htr D cI a0 a1 a2 a3 a4 a5 a6 a7 a8 a9 a10 a11 a12 a13 a14 a15 a16 u x1 z1 hz1 H.size) (cwV 1 hts gL_input_X4_input rfl rfl rfl (by decide +kernel) ⟨Nat.le_of_ble_eq_true rfl, Nat.le_of_ble_eq_true rfl⟩) (gPreVX (ci := 3) (C := RX4) (T := TX4) (N := 11) hX hS hA hP (hK.sub [0] rfl) hD [0, 1, 2, 3, 4, 5, 6, 7, 8, 9, 10, 11, 12, 13, 14, 15, 16] (by decide) rfl 0 rfl rfl) rfl rfl hl.1 rfl (lv_room (Nat.le_of_ble_eq_true rfl)) dL_input_4 ⟨Nat.le_of_ble_eq_true rfl, Nat.le_of_ble_eq_true rfl⟩) hP hD hS hA [0, 1, 2, 3, 4, 5, 6, 7, 8, 9, 10, 11, 12, 13, 14, 15, 16] [17] [1, 2, 3, 4, 5, 6, 7, 8, 9, 10, 11, 12, 13, 14, 15, 16, 17, 0] rfl rfl (by decide) (by decide) rfl (by decide) (fun E ce q9 H locs he hP hD hS h1 h2 h3 => ?_) (fun k0 H locs hP hD hS => ?_)
  · by_cases k1 : z1.1 = 1
    · obtain rfl := exc1 he k1
      replace hf := pI_t k1 (pI_f (ne10 k1) hf)
      refine xc_first (name := "java/lang/IllegalArgumentException") hown ⟨0, 9, 12, 13⟩ [⟨0, 9, 15, 29⟩] htab (by decide) (by decide) (hts (.classLink RL 13 "java/lang/IllegalArgumentException") (by decide +kernel)) (hX.2.2.1 _ (by decide +kernel)) h1 h2 h3 ?_
      refine lv_astore_n (lv' := [(3, .ref q9), (0, .ref a0), (1, .int x1), (2, .ref b0)]) hx hb dL_input_12 rfl hl (by decide) rfl (fun ls hl => ?_)
      refine lv_iconst (v := 1) hx hb dL_input_13 (by decide) ?_
      have hz2 := Option.some.inj hf
      subst hz2
      exact gRetI hx hb hr hlocks hK hP hD hS rfl rfl dL_input_14
    · obtain ⟨k2, rfl⟩ := exc2 he k1
      replace hf := pI_t k2 (pI_f k1 (pI_f (ne20 k2) hf))
      refine xc_second (name := "java/lang/IllegalStateException") (nm := "java/lang/IllegalArgumentException") hown ⟨0, 9, 12, 13⟩ ⟨0, 9, 15, 29⟩ [] htab (by decide) (by decide) (by decide) (by decide) (hts (.classLink RL 13 "java/lang/IllegalArgumentException") (by decide +kernel)) hX.2.2.2 (hts (.classLink RL 29 "java/lang/IllegalStateException") (by decide +kernel)) (hX.2.2.1 _ (by decide +kernel)) h1 h2 h3 ?_
      refine lv_astore_n (lv' := [(3, .ref q9), (0, .ref a0), (1, .int x1), (2, .ref b0)]) hx hb dL_input_15 rfl hl (by decide) rfl (fun ls hl => ?_)
      refine lv_iconst (v := 2) hx hb dL_input_16 (by decide) ?_
      have hz2 := Option.some.inj hf
      subst hz2
      exact gRetI hx hb hr hlocks hK hP hD hS rfl rfl dL_input_17
  · replace hf := pI_t k0 hf
    refine lv_i2l (v := (z1.2.1).toInt64) hx hb dL_input_7 rfl ?_
    refine va_last hx hb hK hP hD hS 17 1 rfl rfl (show vp_in 0 1 by unfold vp_in; decide) dL_input_8 (fun H locs hP hD hS => ?_)
    replace hP : va_P D vwCl (wBo a0 a1 a2 a3 a4 a5 a6 a7 a8 a9 a10 a11 a12 a13 a14 a15 a16 b0 cI cL (z1.2.2) (vp_updL g (0 : Int32).toNatClampNeg (z1.2.1).toInt64)) H := hP
    replace hD : va_D A (wBo a0 a1 a2 a3 a4 a5 a6 a7 a8 a9 a10 a11 a12 a13 a14 a15 a16 b0 cI cL (z1.2.2) (vp_updL g (0 : Int32).toNatClampNeg (z1.2.1).toInt64)) := hD
    refine lv_goto (tgt := 18) hx hb dL_input_9 (by decide) ?_
    refine lv_iconst (v := 0) hx hb dL_input_18 (by decide) ?_
    have hz2 := Option.some.inj hf
    subst hz2
    exact gRetI hx hb hr hlocks hK hP hD hS rfl rfl dL_input_19
abbrev rmL_request : Room := { frames := 7, cells := 1, slots := 6, locals := 102 }
def fL_request (u : TB) (x1 : Int32) (g : Nat → Int64) : Option (Int32 × TB × (Nat → Int64)) :=
  pB (fX4_request u x1) (fun z => if z.1 = 0 then some (0, z.2.2, vp_updL g (0 : Int32).toNatClampNeg (z.2.1).toInt64) else if z.1 = 1 then some (1, z.2.2, g) else if z.1 = 2 then some (2, z.2.2, g) else none)
set_option maxRecDepth 100000 in
set_option maxHeartbeats 4000000 in
theorem ctL_request (l : Launch) (htr : l.stackTraces = false) (D : va_G) (cI cL : ClassId) (a0 a1 a2 a3 a4 a5 a6 a7 a8 a9 a10 a11 a12 a13 a14 a15 a16 b0 : Nat) (u : TB) (x1 : Int32) (g : Nat → Int64) (z : Int32 × TB × (Nat → Int64)) (hz : fL_request u x1 g = some z) : CtW l yL_request wsL_request rmL_request D vwCl [(cI, .int), (cL, .long)] [.ref a0, .int x1, .ref b0] (wBo a0 a1 a2 a3 a4 a5 a6 a7 a8 a9 a10 a11 a12 a13 a14 a15 a16 b0 cI cL u g) z.1 (wBo a0 a1 a2 a3 a4 a5 a6 a7 a8 a9 a10 a11 a12 a13 a14 a15 a16 b0 cI cL z.2.1 z.2.2) := by
  intro sz
  refine va_MetW (cc := cL_request) (maxL := 4) (ret := some .int) (hh := [(0, 9, 12, 13), (0, 9, 15, 29)]) (by decide) rfl ?_
  intro p e s m args below meth c s₁ B hml hv
  obtain ⟨rfl, ⟨hsz, hP, hK, hD0⟩, hX⟩ := hv
  have hx := B.exec
  have hb := B.bytes
  have hr := B.returns
  have hts := atoms_spec (ws := wsL_request) B.pre
  have htab : c.exceptionTable.toList = [⟨0, 9, 12, 13⟩, ⟨0, 9, 15, 29⟩] := vx_table (x := yL_request) B (hts (.codeWith yL_request cL_request 4 (some .int) [(0, 9, 12, 13), (0, 9, 15, 29)]) List.mem_cons_self)
  have hown : s.vm.findClass RL = some m.cls := findClass_of_methodNamed B.named
  have hlocks := B.notSynchronized
  subst hsz
  have hD := hD0.self (sz := s.heap.size)
  generalize hAe : va_A (wBo a0 a1 a2 a3 a4 a5 a6 a7 a8 a9 a10 a11 a12 a13 a14 a15 a16 b0 cI cL u g) s.heap.size = A at hD hX ⊢
  have hA : ∀ q : Nat, s.heap.size ≤ q → A q := fun q h => by rw [← hAe]; exact Or.inr h
  have hS : va_S A s.heap s.heap [] := va_S.rf
  have hl := lv_entry ([.ref a0, .int x1, .ref b0]) (n := 4) (Nat.le_of_ble_eq_true rfl)
  rw [lg_entry_eq]
  generalize (lg_sl ([.ref a0, .int x1, .ref b0]) ++ List.replicate (4 - (lg_sl ([.ref a0, .int x1, .ref b0])).length) Slot.unset).toArray = ls at hl ⊢
  have hl : lv_has ls 4 [(0, .ref a0), (1, .int x1), (2, .ref b0)] := hl
  generalize hHe : s.heap = H at hP ⊢
  have hS : va_S A s.heap H [] := by rw [← hHe]; exact va_S.rf
  refine lv_aload_n hx hb dL_request_0 rfl (lv_at hl 2 rfl) ?_
  refine lv_iconst (v := 0) hx hb dL_request_1 (by decide) ?_
  refine lv_aload_n hx hb dL_request_2 rfl (lv_at hl 0 rfl) ?_
  refine lv_iload_n hx hb dL_request_3 rfl (lv_at hl 1 rfl) ?_
  obtain ⟨z1, hz1, hf⟩ := pB_out hz
  refine gXI (w' := (wBo a0 a1 a2 a3 a4 a5 a6 a7 a8 a9 a10 a11 a12 a13 a14 a15 a16 b0 cI cL (z1.2.2) g)) (vx_runV (As := [.int x1]) (rest := [.int 0, .ref b0]) ⟨hx, hb, hml, hown, hts⟩ (ctX4_request l htr D cI a0 a1 a2 a3 a4 a5 a6 a7 a8 a9 a10 a11 a12 a13 a14 a15 a16 u x1 z1 hz1 H.size) (cwV 1 hts gL_request_X4_request rfl rfl rfl (by decide +kernel) ⟨Nat.le_of_ble_eq_true rfl, Nat.le_of_ble_eq_true rfl⟩) (gPreVX (ci := 3) (C := RX4) (T := TX4) (N := 11) hX hS hA hP (hK.sub [0] rfl) hD [0, 1, 2, 3, 4, 5, 6, 7, 8, 9, 10, 11, 12, 13, 14, 15, 16] (by decide) rfl 0 rfl rfl) rfl rfl hl.1 rfl (lv_room (Nat.le_of_ble_eq_true rfl)) dL_request_4 ⟨Nat.le_of_ble_eq_true rfl, Nat.le_of_ble_eq_true rfl⟩) hP hD hS hA [0, 1, 2, 3, 4, 5, 6, 7, 8, 9, 10, 11, 12, 13, 14, 15, 16] [17] [1, 2, 3, 4, 5, 6, 7, 8, 9, 10, 11, 12, 13, 14, 15, 16, 17, 0] rfl rfl (by decide) (by decide) rfl (by decide) (fun E ce q9 H locs he hP hD hS h1 h2 h3 => ?_) (fun k0 H locs hP hD hS => ?_)
  · by_cases k1 : z1.1 = 1
    · obtain rfl := exc1 he k1
      replace hf := pI_t k1 (pI_f (ne10 k1) hf)
      refine xc_first (name := "java/lang/IllegalArgumentException") hown ⟨0, 9, 12, 13⟩ [⟨0, 9, 15, 29⟩] htab (by decide) (by decide) (hts (.classLink RL 13 "java/lang/IllegalArgumentException") (by decide +kernel)) (hX.2.2.1 _ (by decide +kernel)) h1 h2 h3 ?_
      refine lv_astore_n (lv' := [(3, .ref q9), (0, .ref a0), (1, .int x1), (2, .ref b0)]) hx hb dL_request_12 rfl hl (by decide) rfl (fun ls hl => ?_)
      refine lv_iconst (v := 1) hx hb dL_request_13 (by decide) ?_
      have hz2 := Option.some.inj hf
      subst hz2
      exact gRetI hx hb hr hlocks hK hP hD hS rfl rfl dL_request_14
    · obtain ⟨k2, rfl⟩ := exc2 he k1
      replace hf := pI_t k2 (pI_f k1 (pI_f (ne20 k2) hf))
      refine xc_second (name := "java/lang/IllegalStateException") (nm := "java/lang/IllegalArgumentException") hown ⟨0, 9, 12, 13⟩ ⟨0, 9, 15, 29⟩ [] htab (by decide) (by decide) (by decide) (by decide) (hts (.classLink RL 13 "java/lang/IllegalArgumentException") (by decide +kernel)) hX.2.2.2 (hts (.classLink RL 29 "java/lang/IllegalStateException") (by decide +kernel)) (hX.2.2.1 _ (by decide +kernel)) h1 h2 h3 ?_
      refine lv_astore_n (lv' := [(3, .ref q9), (0, .ref a0), (1, .int x1), (2, .ref b0)]) hx hb dL_request_15 rfl hl (by decide) rfl (fun ls hl => ?_)
      refine lv_iconst (v := 2) hx hb dL_request_16 (by decide) ?_
      have hz2 := Option.some.inj hf
      subst hz2
      exact gRetI hx hb hr hlocks hK hP hD hS rfl rfl dL_request_17
  · replace hf := pI_t k0 hf
    refine lv_i2l (v := (z1.2.1).toInt64) hx hb dL_request_7 rfl ?_
    refine va_last hx hb hK hP hD hS 17 1 rfl rfl (show vp_in 0 1 by unfold vp_in; decide) dL_request_8 (fun H locs hP hD hS => ?_)
    replace hP : va_P D vwCl (wBo a0 a1 a2 a3 a4 a5 a6 a7 a8 a9 a10 a11 a12 a13 a14 a15 a16 b0 cI cL (z1.2.2) (vp_updL g (0 : Int32).toNatClampNeg (z1.2.1).toInt64)) H := hP
    replace hD : va_D A (wBo a0 a1 a2 a3 a4 a5 a6 a7 a8 a9 a10 a11 a12 a13 a14 a15 a16 b0 cI cL (z1.2.2) (vp_updL g (0 : Int32).toNatClampNeg (z1.2.1).toInt64)) := hD
    refine lv_goto (tgt := 18) hx hb dL_request_9 (by decide) ?_
    refine lv_iconst (v := 0) hx hb dL_request_18 (by decide) ?_
    have hz2 := Option.some.inj hf
    subst hz2
    exact gRetI hx hb hr hlocks hK hP hD hS rfl rfl dL_request_19
abbrev rmL_room : Room := { frames := 7, cells := 1, slots := 6, locals := 102 }
def fL_room (u : TB) (x1 : Int32) : Option (Int32 × TB) :=
  pB (fX4_room u x1) (fun z => if z.1 = 0 then some (0, z.2) else if z.1 = 1 then some (1, z.2) else none)
set_option maxRecDepth 100000 in
set_option maxHeartbeats 4000000 in
theorem ctL_room (l : Launch) (htr : l.stackTraces = false) (D : va_G) (cI : ClassId) (a0 a1 a2 a3 a4 a5 a6 a7 a8 a9 a10 a11 a12 a13 a14 a15 a16 : Nat) (u : TB) (x1 : Int32) (z : Int32 × TB) (hz : fL_room u x1 = some z) : CtW l yL_room wsL_room rmL_room D vwCl [(cI, .int)] [.ref a0, .int x1] (wB a0 a1 a2 a3 a4 a5 a6 a7 a8 a9 a10 a11 a12 a13 a14 a15 a16 cI u) z.1 (wB a0 a1 a2 a3 a4 a5 a6 a7 a8 a9 a10 a11 a12 a13 a14 a15 a16 cI z.2) := by
  intro sz
  refine va_MetW (cc := cL_room) (maxL := 3) (ret := some .int) (hh := [(0, 5, 8, 13)]) (by decide) rfl ?_
  intro p e s m args below meth c s₁ B hml hv
  obtain ⟨rfl, ⟨hsz, hP, hK, hD0⟩, hX⟩ := hv
  have hx := B.exec
  have hb := B.bytes
  have hr := B.returns
  have hts := atoms_spec (ws := wsL_room) B.pre
  have htab : c.exceptionTable.toList = [⟨0, 5, 8, 13⟩] := vx_table (x := yL_room) B (hts (.codeWith yL_room cL_room 3 (some .int) [(0, 5, 8, 13)]) List.mem_cons_self)
  have hown : s.vm.findClass RL = some m.cls := findClass_of_methodNamed B.named
  have hlocks := B.notSynchronized
  subst hsz
  have hD := hD0.self (sz := s.heap.size)
  generalize hAe : va_A (wB a0 a1 a2 a3 a4 a5 a6 a7 a8 a9 a10 a11 a12 a13 a14 a15 a16 cI u) s.heap.size = A at hD hX ⊢
  have hA : ∀ q : Nat, s.heap.size ≤ q → A q := fun q h => by rw [← hAe]; exact Or.inr h
  have hS : va_S A s.heap s.heap [] := va_S.rf
  have hl := lv_entry ([.ref a0, .int x1]) (n := 3) (Nat.le_of_ble_eq_true rfl)
  rw [lg_entry_eq]
  generalize (lg_sl ([.ref a0, .int x1]) ++ List.replicate (3 - (lg_sl ([.ref a0, .int x1])).length) Slot.unset).toArray = ls at hl ⊢
  have hl : lv_has ls 3 [(0, .ref a0), (1, .int x1)] := hl
  generalize hHe : s.heap = H at hP ⊢
  have hS : va_S A s.heap H [] := by rw [← hHe]; exact va_S.rf
  refine lv_aload_n hx hb dL_room_0 rfl (lv_at hl 0 rfl) ?_
  refine lv_iload_n hx hb dL_room_1 rfl (lv_at hl 1 rfl) ?_
  obtain ⟨z1, hz1, hf⟩ := pB_out hz
  refine gXV (w' := (wB a0 a1 a2 a3 a4 a5 a6 a7 a8 a9 a10 a11 a12 a13 a14 a15 a16 cI (z1.2))) (vx_runV (As := [.int x1]) (rest := []) ⟨hx, hb, hml, hown, hts⟩ (ctX4_room l htr D cI a0 a1 a2 a3 a4 a5 a6 a7 a8 a9 a10 a11 a12 a13 a14 a15 a16 u x1 z1 hz1 H.size) (cwV 1 hts gL_room_X4_room rfl rfl rfl (by decide +kernel) ⟨Nat.le_of_ble_eq_true rfl, Nat.le_of_ble_eq_true rfl⟩) (gPreVX (ci := 3) (C := RX4) (T := TX4) (N := 11) hX hS hA hP hK hD [0, 1, 2, 3, 4, 5, 6, 7, 8, 9, 10, 11, 12, 13, 14, 15, 16] (by decide) rfl 0 rfl rfl) rfl rfl hl.1 rfl (lv_room (Nat.le_of_ble_eq_true rfl)) dL_room_2 ⟨Nat.le_of_ble_eq_true rfl, Nat.le_of_ble_eq_true rfl⟩) hP hD hS hA [0, 1, 2, 3, 4, 5, 6, 7, 8, 9, 10, 11, 12, 13, 14, 15, 16] [] [0, 1, 2, 3, 4, 5, 6, 7, 8, 9, 10, 11, 12, 13, 14, 15, 16] rfl rfl (by decide) (by decide) rfl (by decide) (fun E ce q9 H locs he hP hD hS h1 h2 h3 => ?_) (fun k0 H locs hP hD hS => ?_)
  · by_cases k1 : z1.1 = 1
    · obtain rfl := exc1 he k1
      replace hf := pI_t k1 (pI_f (ne10 k1) hf)
      refine xc_first (name := "java/lang/IllegalArgumentException") hown ⟨0, 5, 8, 13⟩ [] htab (by decide) (by decide) (hts (.classLink RL 13 "java/lang/IllegalArgumentException") (by decide +kernel)) (hX.2.2.1 _ (by decide +kernel)) h1 h2 h3 ?_
      refine lv_astore_n (lv' := [(2, .ref q9), (0, .ref a0), (1, .int x1)]) hx hb dL_room_8 rfl hl (by decide) rfl (fun ls hl => ?_)
      refine lv_iconst (v := 1) hx hb dL_room_9 (by decide) ?_
      have hz2 := Option.some.inj hf
      subst hz2
      exact gRetI hx hb hr hlocks hK hP hD hS rfl rfl dL_room_10
    · obtain ⟨k2, rfl⟩ := exc2 he k1
      replace hf := pI_f k1 (pI_f (ne20 k2) hf)
      cases hf
  · replace hf := pI_t k0 hf
    refine lv_goto (tgt := 11) hx hb dL_room_5 (by decide) ?_
    refine lv_iconst (v := 0) hx hb dL_room_11 (by decide) ?_
    have hz2 := Option.some.inj hf
    subst hz2
    exact gRetI hx hb hr hlocks hK hP hD hS rfl rfl dL_room_12
abbrev rmL_run : Room := { frames := 8, cells := 1, slots := 6, locals := 179 }
def fL_run (u : TB) (x1 : Int32) (g : Nat → Int64) : Option (Int32 × TB × (Nat → Int64)) :=
  pB (fX4_run u x1) (fun z => if z.1 = 0 then some (0, z.2.2, vp_updL g (0 : Int32).toNatClampNeg (z.2.1).toInt64) else if z.1 = 1 then some (1, z.2.2, g) else none)
set_option maxRecDepth 100000 in
set_option maxHeartbeats 4000000 in
theorem ctL_run (l : Launch) (htr : l.stackTraces = false) (D : va_G) (cI cL : ClassId) (a0 a1 a2 a3 a4 a5 a6 a7 a8 a9 a10 a11 a12 a13 a14 a15 a16 b0 : Nat) (u : TB) (x1 : Int32) (g : Nat → Int64) (z : Int32 × TB × (Nat → Int64)) (hz : fL_run u x1 g = some z) : CtW l yL_run wsL_run rmL_run D vwCl [(cI, .int), (cL, .long)] [.ref a0, .int x1, .ref b0] (wBo a0 a1 a2 a3 a4 a5 a6 a7 a8 a9 a10 a11 a12 a13 a14 a15 a16 b0 cI cL u g) z.1 (wBo a0 a1 a2 a3 a4 a5 a6 a7 a8 a9 a10 a11 a12 a13 a14 a15 a16 b0 cI cL z.2.1 z.2.2) := by
  intro sz
  refine va_MetW (cc := cL_run) (maxL := 4) (ret := some .int) (hh := [(0, 9, 12, 13)]) (by decide) rfl ?_
  intro p e s m args below meth c s₁ B hml hv
  obtain ⟨rfl, ⟨hsz, hP, hK, hD0⟩, hX⟩ := hv
  have hx := B.exec
  have hb := B.bytes
  have hr := B.returns
  have hts := atoms_spec (ws := wsL_run) B.pre
  have htab : c.exceptionTable.toList = [⟨0, 9, 12, 13⟩] := vx_table (x := yL_run) B (hts (.codeWith yL_run cL_run 4 (some .int) [(0, 9, 12, 13)]) List.mem_cons_self)
  have hown : s.vm.findClass RL = some m.cls := findClass_of_methodNamed B.named
  have hlocks := B.notSynchronized
  subst hsz
  have hD := hD0.self (sz := s.heap.size)
  generalize hAe : va_A (wBo a0 a1 a2 a3 a4 a5 a6 a7 a8 a9 a10 a11 a12 a13 a14 a15 a16 b0 cI cL u g) s.heap.size = A at hD hX ⊢
  have hA : ∀ q : Nat, s.heap.size ≤ q → A q := fun q h => by rw [← hAe]; exact Or.inr h
  have hS : va_S A s.heap s.heap [] := va_S.rf
  have hl := lv_entry ([.ref a0, .int x1, .ref b0]) (n := 4) (Nat.le_of_ble_eq_true rfl)
  rw [lg_entry_eq]
  generalize (lg_sl ([.ref a0, .int x1, .ref b0]) ++ List.replicate (4 - (lg_sl ([.ref a0, .int x1, .ref b0])).length) Slot.unset).toArray = ls at hl ⊢
  have hl : lv_has ls 4 [(0, .ref a0), (1, .int x1), (2, .ref b0)] := hl
  generalize hHe : s.heap = H at hP ⊢
  have hS : va_S A s.heap H [] := by rw [← hHe]; exact va_S.rf
  refine lv_aload_n hx hb dL_run_0 rfl (lv_at hl 2 rfl) ?_
  refine lv_iconst (v := 0) hx hb dL_run_1 (by decide) ?_
  refine lv_aload_n hx hb dL_run_2 rfl (lv_at hl 0 rfl) ?_
  refine lv_iload_n hx hb dL_run_3 rfl (lv_at hl 1 rfl) ?_
  obtain ⟨z1, hz1, hf⟩ := pB_out hz
  refine gXI (w' := (wBo a0 a1 a2 a3 a4 a5 a6 a7 a8 a9 a10 a11 a12 a13 a14 a15 a16 b0 cI cL (z1.2.2) g)) (vx_runV (As := [.int x1]) (rest := [.int 0, .ref b0]) ⟨hx, hb, hml, hown, hts⟩ (ctX4_run l htr D cI a0 a1 a2 a3 a4 a5 a6 a7 a8 a9 a10 a11 a12 a13 a14 a15 a16 u x1 z1 hz1 H.size) (cwV 1 hts gL_run_X4_run rfl rfl rfl (by decide +kernel) ⟨Nat.le_of_ble_eq_true rfl, Nat.le_of_ble_eq_true rfl⟩) (gPreVX (ci := 3) (C := RX4) (T := TX4) (N := 11) hX hS hA hP (hK.sub [0] rfl) hD [0, 1, 2, 3, 4, 5, 6, 7, 8, 9, 10, 11, 12, 13, 14, 15, 16] (by decide) rfl 0 rfl rfl) rfl rfl hl.1 rfl (lv_room (Nat.le_of_ble_eq_true rfl)) dL_run_4 ⟨Nat.le_of_ble_eq_true rfl, Nat.le_of_ble_eq_true rfl⟩) hP hD hS hA [0, 1, 2, 3, 4, 5, 6, 7, 8, 9, 10, 11, 12, 13, 14, 15, 16] [17] [1, 2, 3, 4, 5, 6, 7, 8, 9, 10, 11, 12, 13, 14, 15, 16, 17, 0] rfl rfl (by decide) (by decide) rfl (by decide) (fun E ce q9 H locs he hP hD hS h1 h2 h3 => ?_) (fun k0 H locs hP hD hS => ?_)
  · by_cases k1 : z1.1 = 1
    · obtain rfl := exc1 he k1
      replace hf := pI_t k1 (pI_f (ne10 k1) hf)
      refine xc_first (name := "java/lang/IllegalArgumentException") hown ⟨0, 9, 12, 13⟩ [] htab (by decide) (by decide) (hts (.classLink RL 13 "java/lang/IllegalArgumentException") (by decide +kernel)) (hX.2.2.1 _ (by decide +kernel)) h1 h2 h3 ?_
      refine lv_astore_n (lv' := [(3, .ref q9), (0, .ref a0), (1, .int x1), (2, .ref b0)]) hx hb dL_run_12 rfl hl (by decide) rfl (fun ls hl => ?_)
      refine lv_iconst (v := 1) hx hb dL_run_13 (by decide) ?_
      have hz2 := Option.some.inj hf
      subst hz2
      exact gRetI hx hb hr hlocks hK hP hD hS rfl rfl dL_run_14
    · obtain ⟨k2, rfl⟩ := exc2 he k1
      replace hf := pI_f k1 (pI_f (ne20 k2) hf)
      cases hf
  · replace hf := pI_t k0 hf
    refine lv_i2l (v := (z1.2.1).toInt64) hx hb dL_run_7 rfl ?_
    refine va_last hx hb hK hP hD hS 17 1 rfl rfl (show vp_in 0 1 by unfold vp_in; decide) dL_run_8 (fun H locs hP hD hS => ?_)
    replace hP : va_P D vwCl (wBo a0 a1 a2 a3 a4 a5 a6 a7 a8 a9 a10 a11 a12 a13 a14 a15 a16 b0 cI cL (z1.2.2) (vp_updL g (0 : Int32).toNatClampNeg (z1.2.1).toInt64)) H := hP
    replace hD : va_D A (wBo a0 a1 a2 a3 a4 a5 a6 a7 a8 a9 a10 a11 a12 a13 a14 a15 a16 b0 cI cL (z1.2.2) (vp_updL g (0 : Int32).toNatClampNeg (z1.2.1).toInt64)) := hD
    refine lv_goto (tgt := 15) hx hb dL_run_9 (by decide) ?_
    refine lv_iconst (v := 0) hx hb dL_run_15 (by decide) ?_
    have hz2 := Option.some.inj hf
    subst hz2
    exact gRetI hx hb hr hlocks hK hP hD hS rfl rfl dL_run_16
abbrev rmL_count : Room := { frames := 7, cells := 1, slots := 6, locals := 102 }
def fL_count (u : TB) (x1 : Int32) (g : Nat → Int64) : Option (Int32 × TB × (Nat → Int64)) :=
  pLet (fX4_count u x1) (fun z => if z.1 = 0 then some (0, u, vp_updL g (0 : Int32).toNatClampNeg (z.2).toInt64) else if z.1 = 1 then some (1, u, g) else none)
set_option maxRecDepth 100000 in
set_option maxHeartbeats 4000000 in
theorem ctL_count (l : Launch) (htr : l.stackTraces = false) (D : va_G) (cI cL : ClassId) (a0 a1 a2 a3 a4 a5 a6 a7 a8 a9 a10 a11 a12 a13 a14 a15 a16 b0 : Nat) (u : TB) (x1 : Int32) (g : Nat → Int64) (z : Int32 × TB × (Nat → Int64)) (hz : fL_count u x1 g = some z) : CtW l yL_count wsL_count rmL_count D vwCl [(cI, .int), (cL, .long)] [.ref a0, .int x1, .ref b0] (wBo a0 a1 a2 a3 a4 a5 a6 a7 a8 a9 a10 a11 a12 a13 a14 a15 a16 b0 cI cL u g) z.1 (wBo a0 a1 a2 a3 a4 a5 a6 a7 a8 a9 a10 a11 a12 a13 a14 a15 a16 b0 cI cL z.2.1 z.2.2) := by
  intro sz
  refine va_MetW (cc := cL_count) (maxL := 4) (ret := some .int) (hh := [(0, 9, 12, 13)]) (by decide) rfl ?_
  intro p e s m args below meth c s₁ B hml hv
  obtain ⟨rfl, ⟨hsz, hP, hK, hD0⟩, hX⟩ := hv
  have hx := B.exec
  have hb := B.bytes
  have hr := B.returns
  have hts := atoms_spec (ws := wsL_count) B.pre
  have htab : c.exceptionTable.toList = [⟨0, 9, 12, 13⟩] := vx_table (x := yL_count) B (hts (.codeWith yL_count cL_count 4 (some .int) [(0, 9, 12, 13)]) List.mem_cons_self)
  have hown : s.vm.findClass RL = some m.cls := findClass_of_methodNamed B.named
  have hlocks := B.notSynchronized
  subst hsz
  have hD := hD0.self (sz := s.heap.size)
  generalize hAe : va_A (wBo a0 a1 a2 a3 a4 a5 a6 a7 a8 a9 a10 a11 a12 a13 a14 a15 a16 b0 cI cL u g) s.heap.size = A at hD hX ⊢
  have hA : ∀ q : Nat, s.heap.size ≤ q → A q := fun q h => by rw [← hAe]; exact Or.inr h
  have hS : va_S A s.heap s.heap [] := va_S.rf
  have hl := lv_entry ([.ref a0, .int x1, .ref b0]) (n := 4) (Nat.le_of_ble_eq_true rfl)
  rw [lg_entry_eq]
  generalize (lg_sl ([.ref a0, .int x1, .ref b0]) ++ List.replicate (4 - (lg_sl ([.ref a0, .int x1, .ref b0])).length) Slot.unset).toArray = ls at hl ⊢
  have hl : lv_has ls 4 [(0, .ref a0), (1, .int x1), (2, .ref b0)] := hl
  generalize hHe : s.heap = H at hP ⊢
  have hS : va_S A s.heap H [] := by rw [← hHe]; exact va_S.rf
  refine lv_aload_n hx hb dL_count_0 rfl (lv_at hl 2 rfl) ?_
  refine lv_iconst (v := 0) hx hb dL_count_1 (by decide) ?_
  refine lv_aload_n hx hb dL_count_2 rfl (lv_at hl 0 rfl) ?_
  refine lv_iload_n hx hb dL_count_3 rfl (lv_at hl 1 rfl) ?_
  obtain ⟨z1, hz1, hf⟩ := pLet_out hz
  refine gXI (w' := (wBo a0 a1 a2 a3 a4 a5 a6 a7 a8 a9 a10 a11 a12 a13 a14 a15 a16 b0 cI cL u g)) (vx_runV (As := [.int x1]) (rest := [.int 0, .ref b0]) ⟨hx, hb, hml, hown, hts⟩ (ctX4_count l htr D cI a0 a1 a2 a3 a4 a5 a6 a7 a8 a9 a10 a11 a12 a13 a14 a15 a16 u x1 z1 hz1.symm H.size) (cwV 1 hts gL_count_X4_count rfl rfl rfl (by decide +kernel) ⟨Nat.le_of_ble_eq_true rfl, Nat.le_of_ble_eq_true rfl⟩) (gPreVX (ci := 3) (C := RX4) (T := TX4) (N := 11) hX hS hA hP (hK.sub [0] rfl) hD [0, 1, 2, 3, 4, 5, 6, 7, 8, 9, 10, 11, 12, 13, 14, 15, 16] (by decide) rfl 0 rfl rfl) rfl rfl hl.1 rfl (lv_room (Nat.le_of_ble_eq_true rfl)) dL_count_4 ⟨Nat.le_of_ble_eq_true rfl, Nat.le_of_ble_eq_true rfl⟩) hP hD hS hA [0, 1, 2, 3, 4, 5, 6, 7, 8, 9, 10, 11, 12, 13, 14, 15, 16] [17] [1, 2, 3, 4, 5, 6, 7, 8, 9, 10, 11, 12, 13, 14, 15, 16, 17, 0] rfl rfl (by decide) (by decide) rfl (by decide) (fun E ce q9 H locs he hP hD hS h1 h2 h3 => ?_) (fun k0 H locs hP hD hS => ?_)
  · by_cases k1 : z1.1 = 1
    · obtain rfl := exc1 he k1
      replace hf := pI_t k1 (pI_f (ne10 k1) hf)
      refine xc_first (name := "java/lang/IllegalArgumentException") hown ⟨0, 9, 12, 13⟩ [] htab (by decide) (by decide) (hts (.classLink RL 13 "java/lang/IllegalArgumentException") (by decide +kernel)) (hX.2.2.1 _ (by decide +kernel)) h1 h2 h3 ?_
      refine lv_astore_n (lv' := [(3, .ref q9), (0, .ref a0), (1, .int x1), (2, .ref b0)]) hx hb dL_count_12 rfl hl (by decide) rfl (fun ls hl => ?_)
      refine lv_iconst (v := 1) hx hb dL_count_13 (by decide) ?_
      have hz2 := Option.some.inj hf
      subst hz2
      exact gRetI hx hb hr hlocks hK hP hD hS rfl rfl dL_count_14
    · obtain ⟨k2, rfl⟩ := exc2 he k1
      replace hf := pI_f k1 (pI_f (ne20 k2) hf)
      cases hf
  · replace hf := pI_t k0 hf
    refine lv_i2l (v := (z1.2).toInt64) hx hb dL_count_7 rfl ?_
    refine va_last hx hb hK hP hD hS 17 1 rfl rfl (show vp_in 0 1 by unfold vp_in; decide) dL_count_8 (fun H locs hP hD hS => ?_)
    replace hP : va_P D vwCl (wBo a0 a1 a2 a3 a4 a5 a6 a7 a8 a9 a10 a11 a12 a13 a14 a15 a16 b0 cI cL u (vp_updL g (0 : Int32).toNatClampNeg (z1.2).toInt64)) H := hP
    replace hD : va_D A (wBo a0 a1 a2 a3 a4 a5 a6 a7 a8 a9 a10 a11 a12 a13 a14 a15 a16 b0 cI cL u (vp_updL g (0 : Int32).toNatClampNeg (z1.2).toInt64)) := hD
    refine lv_goto (tgt := 15) hx hb dL_count_9 (by decide) ?_
    refine lv_iconst (v := 0) hx hb dL_count_15 (by decide) ?_
    have hz2 := Option.some.inj hf
    subst hz2
    exact gRetI hx hb hr hlocks hK hP hD hS rfl rfl dL_count_16

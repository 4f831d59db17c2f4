/-! THE CLAIM OUT OF ONE WALK OF THE LAW'S BODY. Your part is whole_start (and what it stands on); all else here is the same for every law, but numbers. -/
def R_law : String := "BlockCacheLaw"
def lw_P (b : Addr) (xs : List Int32) (args : Array Value) (s : State) : Prop := args = #[.ref b] ∧ s.IntsAt b xs ∧ xs.length ≤ 2048 ∧ (Jvm.Cond.and given_1 narrow_1).before args s = true
def lw_Q (_ : Array Value) (s : State) (o : Outcome) (t : State) : Prop := o = .returned (some (.int 1)) ∧ Framed s o t [] 601024 7293034
def lw_Z (below : List Frame) (a : Array Value) (s : State) : State → Prop := fun t => ∃ o, t.status = .running ∧ Ended t below o ∧ lw_Q a s o t
/-- the law's own end, with 1 on the stack, nothing written that was there before, its room as the claim has it -/
theorem lw_ret {p : Program} {l : Launch} {e : Env} {s : State} {m : MethodId} {below : List Frame} {meth : Method} {c : Code} {b : Nat} (hx : p.tables.exec = Jvm.exec) (hb : c.code = code) (hr : meth.sig.returnType = ret) (hlocks : meth.locks = false) {pc : Nat} {H : Heap} {ls : Array Slot} (hdg : decode code pc = .ok (.ireturn, 1)) : W p l e room_1 s m #[Value.ref b] below meth c H [] 601024 7293034 (lw_Z below #[Value.ref b] s) (F0 m pc ls [.int 1]) := by
  intro T hT X
  obtain ⟨fs, hret, hrun, hended, hW, hframe⟩ := X.leave (v := some (.int 1)) (hlocks := hlocks) (fun h => by rw [hr] at h; cases h)
  have hmeth' : T.vm.method? m = some meth := X.method'
  refine ⟨T.setFrames fs, ?_, .returned (some (.int 1)), hrun, hended, rfl, ⟨_, rfl⟩, hW, hframe⟩
  jvm_step X.here [X.here.top, hx, hb, hdg, hmeth', hr, ret, narrow_b1]
  (try refine ⟨rfl, ?_⟩); (try refine ⟨rfl, ?_⟩)
  first | (intro acts; rw [hret _ acts rfl rfl rfl]) | rw [hret _ _ rfl rfl rfl]
  exact Steps.refl _
/-- what holds at the law's entry: the machine, the code, the tables' words (any of lw_tbl by 'hts w (by decide +kernel)'), the script of L ints xs at the cell b, what the Statement gives of the start (any of its parts by flat_of_before) -/
def lw_At (p : Program) (s : State) (m : MethodId) (meth : Method) (c : Code) (b L : Nat) (xs : Nat → Int32) : Prop :=
  p.tables.exec = Jvm.exec ∧ c.code = code ∧ meth.sig.returnType = ret ∧ c.maxLocals = 7 ∧ s.vm.findClass R_law = some m.cls ∧ (∀ w ∈ lw_tbl, w.before #[Value.ref b] s = true) ∧ va_X b L xs s s.heap ∧ b < s.heap.size ∧ meth.locks = false ∧ (Jvm.Cond.and given_1 narrow_1).before #[Value.ref b] s = true
section GL
variable {p : Program} {l : Launch} {e : Env} {R : Room} {s : State} {m : MethodId} {args : Array Value} {below : List Frame} {meth : Method} {c : Code} {H : Heap} {locs : List Loc} {cells slots : Nat} {Q : State → Prop}
  {pc : Nat} {ls : Array Slot} {rest st0 : List Value} {a : Array Value} {A : Nat → Prop} {H0 : Heap} {D : va_G} {cl : List vw_C} {tys : List (ClassId × FieldType)} {w wc wc' w' : va_W}
theorem gPreSX {as : List Value} (hX : xw A s s.heap) (hS : va_S A s.heap H locs) (hA : ∀ q : Nat, s.heap.size ≤ q → A q) (hP : va_P D cl w H) (hK : va_K D cl tys s) (hD : va_D A w) (isC : List Nat) (hn : va_nd isC = true) (hC : isC.map (fun i => w[i]?) = wc.map some) : PreS s H (va_Pc as (pcX D cl tys H.size wc)) as := by
  have h1 := gPreS (as := as) hP hK hD isC hn hC
  have hFc := va_free (wc := wc) hD hS hA isC hC
  refine ⟨blindX, fun U hU hW => ⟨rfl, (h1.2 U hU hW).2, ?_⟩⟩
  rw [hU]
  exact ((hX.kept (fun q h2 h3 => hS.2.1 q h2 h3)).narrow (fun q h => hFc q h)).moved hW.alike
theorem gW {r0 : Int32} (hr : va_Run p l e R s m args below meth c H locs cells slots 1 6 (F0 m pc ls st0) rest (oI D cl tys (va_A wc H.size) r0 wc' a) (va_A wc H.size)) (hP : va_P D cl w H) (hD : va_D A w) (hS : va_S A H0 H locs) (hA : ∀ q, H0.size ≤ q → A q) (isC isR pm : List Nat) (hC : isC.map (fun i => w[i]?) = wc.map some) (hR : isR.map (fun i => w[i]?) = (isR.filterMap (fun i => w[i]?)).map some) (hn : va_nd isR = true) (hdis : ∀ i ∈ isR, i ∉ isC) (hw : pm.map (fun i => ((isR.filterMap (fun i => w[i]?)) ++ wc')[i]?) = w'.map some) (hpm : va_nd pm = true)
    (kk : ∀ (H1 : Heap) (locs1 : List Loc), va_P D cl w' H1 → va_D A w' → va_S A H0 H1 locs1 → W p l e R s m args below meth c H1 locs1 (cells + 1) (slots + 6) Q (F0 m (pc + 3) ls (.int r0 :: rest))) : W p l e R s m args below meth c H locs cells slots Q (F0 m pc ls st0) := by
  have hFc := va_free (wc := wc) hD hS hA isC hC
  refine va_calli hr hS (fun q _ h => hFc q h) hFc (fun r u t H1 locs1 ht hvm hp hB hz1 hk1 hS1 => ?_)
  obtain ⟨hP2, hD2⟩ := gJoin hP hD hS hA isC isR pm hC hR hn hdis hw hpm ht hk1 hB
  rw [hp]
  exact kk H1 locs1 hP2 hD2 hS1
end GL
abbrev wL (a0 a1 a2 a3 a4 a5 a6 a7 a8 a9 a10 a11 a12 a13 a14 a15 a16 m0 m1 m2 m3 m4 m5 m6 m7 m8 m9 m10 m11 m12 m13 b0 : Nat) (cI cL : ClassId) (u : TB) (v : TM) (gg : Nat → Int64) : va_W := [(a0, .inr (3, [.ref a1, .ref a7, .ref a15, .int (gB_latestRequest u), .int (gB_executed u), .int (gB_invalidated u), .int (gB_lookups u), .int (gB_interpreted u), .int (gB_interrupts u), .int (gB_ending u), .int (gB_exit u)])), (a1, .inr (1, [.ref a2, .ref a3, .ref a4, .ref a6, .int (gG_given (gB_guest u)), .int (gG_written (gB_guest u))])), (a2, .inl (cI, 10, .inl (gG_state (gB_guest u)))), (a3, .inl (cI, 256, .inl (gG_memory (gB_guest u)))), (a4, .inr (2, [.ref a5, .int (gQ_start (gG_inputs (gB_guest u))), .int (gQ_many (gG_inputs (gB_guest u)))])), (a5, .inl (cI, 32, .inl (gQ_ring (gG_inputs (gB_guest u))))), (a6, .inl (cI, 100, .inl (gG_outputs (gB_guest u)))), (a7, .inr (0, [.ref a8, .ref a9, .ref a10, .ref a11, .ref a12, .ref a13, .ref a14, .int (gC_limit (gB_cache u)), .int (gC_blocks (gB_cache u)), .int (gC_filled (gB_cache u)), .int (gC_translated (gB_cache u)), .int (gC_flushes (gB_cache u)), .int (gC_deadFlags (gB_cache u))])), (a8, .inl (cI, 2048, .inl (gC_code (gB_cache u)))), (a9, .inl (cI, 256, .inl (gC_length (gB_cache u)))), (a10, .inl (cI, 256, .inl (gC_behind (gB_cache u)))), (a11, .inl (cI, 256, .inl (gC_size (gB_cache u)))), (a12, .inl (cI, 256, .inl (gC_serial (gB_cache u)))), (a13, .inl (cI, 512, .inl (gC_exitPlace (gB_cache u)))), (a14, .inl (cI, 512, .inl (gC_linkedSerial (gB_cache u)))), (a15, .inr (2, [.ref a16, .int (gQ_start (gB_requests u)), .int (gQ_many (gB_requests u))])), (a16, .inl (cI, 16, .inl (gQ_ring (gB_requests u)))), (m0, .inr (4, [.int (gM_refusal v), .ref m1, .ref m2, .ref m3, .int (gM_inputMany v), .ref m4, .int (gM_requestMany v), .int (gM_lastRequest v), .ref m5, .ref m6, .ref m7, .ref m8, .ref m9, .ref m10, .ref m11, .int (gM_room v), .int (gM_translated v), .ref m12, .int (gM_kind v), .int (gM_bytes v), .int (gM_foundMany v), .int (gM_foundSize v), .int (gM_foundPages v), .int (gM_foundDead v), .ref m13, .int (gM_leftBy v), .int (gM_isOver v)])), (m1, .inl (cI, 256, .inl (gM_memory v))), (m2, .inl (cI, 10, .inl (gM_reg v))), (m3, .inl (cI, 32, .inl (gM_inputs v))), (m4, .inl (cI, 16, .inl (gM_requests v))), (m5, .inl (cI, 100, .inl (gM_given v))), (m6, .inl (cI, 256, .inl (gM_size v))), (m7, .inl (cI, 256, .inl (gM_length v))), (m8, .inl (cI, 256, .inl (gM_pages v))), (m9, .inl (cI, 256, .inl (gM_which v))), (m10, .inl (cI, 512, .inl (gM_exitAt v))), (m11, .inl (cI, 512, .inl (gM_exitTo v))), (m12, .inl (cI, 12, .inl (gM_counts v))), (m13, .inl (cI, 8, .inl (gM_kinds v))), (b0, .inl (cL, 1, .inr (.inl gg)))]
def fL_law_b23 (L : Nat) (xs : Nat → Int32) : Nat → TB → TM → (Nat → Int64) → Int32 → Option Int32
  | 0, _, _, _, _ => none
  | nn + 1, u, v, gg, x4 =>
    if ((Int32.ofNat L) - 4) < x4 then (
    some 1) else (
    pIn x4 L (
    pLet ((xs (x4).toNatClampNeg) &&& 15) (fun x_3 =>
    if x_3 = 0 then (
    pIn (x4 + 1) L (
    pIn (x4 + 2) L (
    pIn (x4 + 3) L (
    pB (fL_poke u (xs ((x4 + 1)).toNatClampNeg) (xs ((x4 + 2)).toNatClampNeg) (xs ((x4 + 3)).toNatClampNeg)) (fun z_8 =>
    pIn (x4 + 1) L (
    pIn (x4 + 2) L (
    pIn (x4 + 3) L (
    pB (fX5_poke v (xs ((x4 + 1)).toNatClampNeg) (xs ((x4 + 2)).toNatClampNeg) (xs ((x4 + 3)).toNatClampNeg)) (fun z_12 =>
    pLet (fX5_thrown z_12) (fun z_13 =>
    if z_13 = z_8.1 then (
    fL_law_b23 L xs nn (z_8.2) z_12 gg (x4 + 4)) else (
    some 0))))))))))) else (
    if x_3 = 1 then (
    pIn (x4 + 1) L (
    pB (fL_peek u (xs ((x4 + 1)).toNatClampNeg) gg) (fun z_18 =>
    pIn (x4 + 1) L (
    pB (fX5_peek v (xs ((x4 + 1)).toNatClampNeg)) (fun z_20 =>
    pLet (fX5_thrown (z_20.2)) (fun z_21 =>
    if z_21 = z_18.1 then (
    if z_18.1 = 0 then (
    pIn 0 1 (
    if (lg_cmp ((z_18.2.2) (0 : Int32).toNatClampNeg) ((z_20.1).toInt64)) = 0 then (
    fL_law_b23 L xs nn (z_18.2.1) (z_20.2) (z_18.2.2) (x4 + 4)) else (
    some 0))) else (
    fL_law_b23 L xs nn (z_18.2.1) (z_20.2) (z_18.2.2) (x4 + 4))) else (
    some 0))))))) else (
    if x_3 = 2 then (
    pIn (x4 + 1) L (
    pIn (x4 + 2) L (
    pB (fL_set u (xs ((x4 + 1)).toNatClampNeg) (xs ((x4 + 2)).toNatClampNeg)) (fun z_31 =>
    pIn (x4 + 1) L (
    pIn (x4 + 2) L (
    pB (fX5_set v (xs ((x4 + 1)).toNatClampNeg) (xs ((x4 + 2)).toNatClampNeg)) (fun z_34 =>
    pLet (fX5_thrown z_34) (fun z_35 =>
    if z_35 = z_31.1 then (
    fL_law_b23 L xs nn (z_31.2) z_34 gg (x4 + 4)) else (
    some 0))))))))) else (
    if x_3 = 3 then (
    pIn (x4 + 1) L (
    pB (fL_get u (xs ((x4 + 1)).toNatClampNeg) gg) (fun z_40 =>
    pIn (x4 + 1) L (
    pB (fX5_get v (xs ((x4 + 1)).toNatClampNeg)) (fun z_42 =>
    pLet (fX5_thrown (z_42.2)) (fun z_43 =>
    if z_43 = z_40.1 then (
    if z_40.1 = 0 then (
    pIn 0 1 (
    if (lg_cmp ((z_40.2.2) (0 : Int32).toNatClampNeg) ((z_42.1).toInt64)) = 0 then (
    fL_law_b23 L xs nn (z_40.2.1) (z_42.2) (z_40.2.2) (x4 + 4)) else (
    some 0))) else (
    fL_law_b23 L xs nn (z_40.2.1) (z_42.2) (z_40.2.2) (x4 + 4))) else (
    some 0))))))) else (
    if x_3 = 4 then (
    pIn (x4 + 1) L (
    pB (fL_input u (xs ((x4 + 1)).toNatClampNeg) gg) (fun z_52 =>
    pIn (x4 + 1) L (
    pB (fX5_input v (xs ((x4 + 1)).toNatClampNeg)) (fun z_54 =>
    pLet (fX5_thrown (z_54.2)) (fun z_55 =>
    if z_55 = z_52.1 then (
    if z_52.1 = 0 then (
    pIn 0 1 (
    if (lg_cmp ((z_52.2.2) (0 : Int32).toNatClampNeg) ((z_54.1).toInt64)) = 0 then (
    fL_law_b23 L xs nn (z_52.2.1) (z_54.2) (z_52.2.2) (x4 + 4)) else (
    some 0))) else (
    fL_law_b23 L xs nn (z_52.2.1) (z_54.2) (z_52.2.2) (x4 + 4))) else (
    some 0))))))) else (
    if x_3 = 5 then (
    pIn (x4 + 1) L (
    pB (fL_request u (xs ((x4 + 1)).toNatClampNeg) gg) (fun z_64 =>
    pIn (x4 + 1) L (
    pB (fX5_request v (xs ((x4 + 1)).toNatClampNeg)) (fun z_66 =>
    pLet (fX5_thrown (z_66.2)) (fun z_67 =>
    if z_67 = z_64.1 then (
    if z_64.1 = 0 then (
    pIn 0 1 (
    if (lg_cmp ((z_64.2.2) (0 : Int32).toNatClampNeg) ((z_66.1).toInt64)) = 0 then (
    fL_law_b23 L xs nn (z_64.2.1) (z_66.2) (z_64.2.2) (x4 + 4)) else (
    some 0))) else (
    fL_law_b23 L xs nn (z_64.2.1) (z_66.2) (z_64.2.2) (x4 + 4))) else (
    some 0))))))) else (
    if x_3 = 6 then (
    pIn (x4 + 1) L (
    pB (fL_room u (xs ((x4 + 1)).toNatClampNeg)) (fun z_76 =>
    pIn (x4 + 1) L (
    pB (fX5_room v (xs ((x4 + 1)).toNatClampNeg)) (fun z_78 =>
    pLet (fX5_thrown z_78) (fun z_79 =>
    if z_79 = z_76.1 then (
    fL_law_b23 L xs nn (z_76.2) z_78 gg (x4 + 4)) else (
    some 0))))))) else (
    if x_3 = 7 then (
    pIn (x4 + 1) L (
    pB (fL_run u (xs ((x4 + 1)).toNatClampNeg) gg) (fun z_84 =>
    pIn (x4 + 1) L (
    pB (fX5_run v (xs ((x4 + 1)).toNatClampNeg)) (fun z_86 =>
    pLet (fX5_thrown (z_86.2)) (fun z_87 =>
    if z_87 = z_84.1 then (
    if z_84.1 = 0 then (
    pIn 0 1 (
    if (lg_cmp ((z_84.2.2) (0 : Int32).toNatClampNeg) ((z_86.1).toInt64)) = 0 then (
    fL_law_b23 L xs nn (z_84.2.1) (z_86.2) (z_84.2.2) (x4 + 4)) else (
    some 0))) else (
    fL_law_b23 L xs nn (z_84.2.1) (z_86.2) (z_84.2.2) (x4 + 4))) else (
    some 0))))))) else (
    if x_3 = 8 then (
    pIn (x4 + 1) L (
    pB (fX4_output u (xs ((x4 + 1)).toNatClampNeg)) (fun z_96 =>
    pIn (x4 + 1) L (
    pB (fX5_output v (xs ((x4 + 1)).toNatClampNeg)) (fun z_98 =>
    if z_96 = z_98.1 then (
    fL_law_b23 L xs nn u (z_98.2) gg (x4 + 4)) else (
    some 0)))))) else (
    if x_3 = 9 then (
    pIn (x4 + 1) L (
    pB (fL_count u (xs ((x4 + 1)).toNatClampNeg) gg) (fun z_103 =>
    pIn (x4 + 1) L (
    pB (fX5_count v (xs ((x4 + 1)).toNatClampNeg)) (fun z_105 =>
    pLet (fX5_thrown (z_105.2)) (fun z_106 =>
    if z_106 = z_103.1 then (
    if z_103.1 = 0 then (
    pIn 0 1 (
    if (lg_cmp ((z_103.2.2) (0 : Int32).toNatClampNeg) ((z_105.1).toInt64)) = 0 then (
    fL_law_b23 L xs nn (z_103.2.1) (z_105.2) (z_103.2.2) (x4 + 4)) else (
    some 0))) else (
    fL_law_b23 L xs nn (z_103.2.1) (z_105.2) (z_103.2.2) (x4 + 4))) else (
    some 0))))))) else (
    fL_law_b23 L xs nn u v gg (x4 + 4))))))))))))))
set_option maxRecDepth 100000 in
set_option maxHeartbeats 8000000 in
theorem wkL_law {p : Program} {l : Launch} {e : Env} {s : State} {m : MethodId} {below : List Frame} {meth : Method} {c : Code} {D : va_G} {cI cL : ClassId} {b L : Nat} {xs : Nat → Int32} {A : Nat → Prop} {a0 a1 a2 a3 a4 a5 a6 a7 a8 a9 a10 a11 a12 a13 a14 a15 a16 m0 m1 m2 m3 m4 m5 m6 m7 m8 m9 m10 m11 m12 m13 b0 : Nat} (htr : l.stackTraces = false) (C0 : lw_At p s m meth c b L xs) (hA : ∀ q : Nat, s.heap.size ≤ q → A q) (hAs : ∀ q : Nat, A q → s.heap.size ≤ q) (hbA : ¬ A b) (hK : va_K D vwCl [(cI, .int), (cL, .long)] s) (hXw : xw A s s.heap) : ∀ (fu : Nat) (u : TB) (v : TM) (gg : Nat → Int64) (x4 : Int32) (H : Heap) (locs : List Loc) (ls : Array Slot) (cells slots : Nat), cells + fu ≤ 601024 → slots + 6 * fu ≤ 7293034 → fL_law_b23 L xs fu u v gg x4 = some 1 → va_P D vwCl (wL a0 a1 a2 a3 a4 a5 a6 a7 a8 a9 a10 a11 a12 a13 a14 a15 a16 m0 m1 m2 m3 m4 m5 m6 m7 m8 m9 m10 m11 m12 m13 b0 cI cL u v gg) H → va_D A (wL a0 a1 a2 a3 a4 a5 a6 a7 a8 a9 a10 a11 a12 a13 a14 a15 a16 m0 m1 m2 m3 m4 m5 m6 m7 m8 m9 m10 m11 m12 m13 b0 cI cL u v gg) → va_S A s.heap H locs → lv_has ls 7 [(0, .ref b), (1, .ref a0), (2, .ref m0), (3, .ref b0), (4, .int x4)] → W p l e room_1 s m #[Value.ref b] below meth c H locs cells slots (lw_Z below #[Value.ref b] s) (F0 m 23 ls []) := by
  obtain ⟨hx, hb, hr, hml, hown, hts0, hX, hbl, hlocks, hgv⟩ := C0
  have hts : ∀ w ∈ wsL_law, w.before #[Value.ref b] s = true := fun w h => hts0 w (wsL_law_in w h)
  intro fu
  induction fu with
  | zero =>
    intro u v gg x4 H locs ls cells slots hc hs hf
    cases hf
  | succ nn ih =>
    intro u v gg x4 H locs ls cells slots hc hs hf hP hD hS hl
    simp only [fL_law_b23] at hf
    have turn : ∀ (u : TB) (v : TM) (gg : Nat → Int64) (H : Heap) (locs : List Loc) (ls : Array Slot) (cells slots : Nat), cells + nn ≤ 601024 → slots + 6 * nn ≤ 7293034 → fL_law_b23 L xs nn u v gg (x4 + 4) = some 1 → va_P D vwCl (wL a0 a1 a2 a3 a4 a5 a6 a7 a8 a9 a10 a11 a12 a13 a14 a15 a16 m0 m1 m2 m3 m4 m5 m6 m7 m8 m9 m10 m11 m12 m13 b0 cI cL u v gg) H → va_D A (wL a0 a1 a2 a3 a4 a5 a6 a7 a8 a9 a10 a11 a12 a13 a14 a15 a16 m0 m1 m2 m3 m4 m5 m6 m7 m8 m9 m10 m11 m12 m13 b0 cI cL u v gg) → va_S A s.heap H locs → lv_has ls 7 [(0, .ref b), (1, .ref a0), (2, .ref m0), (3, .ref b0), (4, .int x4)] → W p l e room_1 s m #[Value.ref b] below meth c H locs cells slots (lw_Z below #[Value.ref b] s) (F0 m 597 ls []) := by
      intro u v gg H locs ls cells slots hc hs hf hP hD hS hl
      refine lv_iinc (v := x4 + 4) (lv' := [(4, .int (x4 + 4)), (0, .ref b), (1, .ref a0), (2, .ref m0), (3, .ref b0)]) hx hb dL_law_597 hl (k := 4) rfl rfl (by decide) rfl (fun ls hl => ?_)
      refine lv_goto (tgt := 23) hx hb dL_law_600 (by decide) ?_
      exact ih u v gg (x4 + 4) H locs ls cells slots hc hs hf hP hD hS (lv_sub hl [1, 2, 3, 4, 0] rfl)
    refine lv_iload hx hb dL_law_23 (lv_at hl 4 rfl) ?_
    refine lv_aload_n hx hb dL_law_25 rfl (lv_at hl 0 rfl) ?_
    refine va_slen hx hb hX hbl hbA hS dL_law_26 ?_
    refine lv_iconst (v := 4) hx hb dL_law_27 (by decide) ?_
    refine lv_isub hx hb dL_law_28 ?_
    refine lv_icmp_gt (tgt := 603) hx hb dL_law_29 (by decide) (fun c_1 => ?_) (fun c_1 => ?_)
    · replace hf := pI_t c_1 hf
      refine lv_iconst (v := 1) hx hb dL_law_603 (by decide) ?_
      refine va_forget (fun q hq => hAs _ (hS.2.2 q hq)) ?_
      refine W.widen (k := 601024) (n := 7293034) (by omega) (by omega) ?_
      exact lw_ret hx hb hr hlocks dL_law_604
    · replace hf := pI_f c_1 hf
      refine lv_aload_n hx hb dL_law_32 rfl (lv_at hl 0 rfl) ?_
      refine lv_iload hx hb dL_law_33 (lv_at hl 4 rfl) ?_
      obtain ⟨h_2, hf⟩ := pIn_out hf
      refine va_sld hx hb hX hbl hbA hS h_2 dL_law_35 ?_
      refine lv_bipush (v := 15) hx hb dL_law_36 (by decide) ?_
      refine lv_iand hx hb dL_law_38 ?_
      obtain ⟨x_3, ex_3, hf⟩ := pLet_out hf
      refine gTop ex_3 ?_
      by_cases c_16 : x_3 = 0
      · replace hf := pI_t c_16 hf
        refine lv_tableIn (tgt := 92) (off := 53) hx hb dL_law_39 (by rw [c_16]; decide) (by rw [c_16]; decide) (by rw [c_16]; rfl) (by decide) ?_
        refine lv_aload_n hx hb dL_law_92 rfl (lv_at hl 1 rfl) ?_
        refine lv_aload_n hx hb dL_law_93 rfl (lv_at hl 0 rfl) ?_
        refine lv_iload hx hb dL_law_94 (lv_at hl 4 rfl) ?_
        refine lv_iconst (v := 1) hx hb dL_law_96 (by decide) ?_
        refine lv_iadd hx hb dL_law_97 ?_
        obtain ⟨h_5, hf⟩ := pIn_out hf
        refine va_sld hx hb hX hbl hbA hS h_5 dL_law_98 ?_
        refine lv_aload_n hx hb dL_law_99 rfl (lv_at hl 0 rfl) ?_
        refine lv_iload hx hb dL_law_100 (lv_at hl 4 rfl) ?_
        refine lv_iconst (v := 2) hx hb dL_law_102 (by decide) ?_
        refine lv_iadd hx hb dL_law_103 ?_
        obtain ⟨h_6, hf⟩ := pIn_out hf
        refine va_sld hx hb hX hbl hbA hS h_6 dL_law_104 ?_
        refine lv_aload_n hx hb dL_law_105 rfl (lv_at hl 0 rfl) ?_
        refine lv_iload hx hb dL_law_106 (lv_at hl 4 rfl) ?_
        refine lv_iconst (v := 3) hx hb dL_law_108 (by decide) ?_
        refine lv_iadd hx hb dL_law_109 ?_
        obtain ⟨h_7, hf⟩ := pIn_out hf
        refine va_sld hx hb hX hbl hbA hS h_7 dL_law_110 ?_
        obtain ⟨z_8, hz_8, hf⟩ := pB_out hf
        refine gW (w' := (wL a0 a1 a2 a3 a4 a5 a6 a7 a8 a9 a10 a11 a12 a13 a14 a15 a16 m0 m1 m2 m3 m4 m5 m6 m7 m8 m9 m10 m11 m12 m13 b0 cI cL (z_8.2) v gg)) (vx_runSW (hh := [(0, 7, 10, 13)]) (As := [.ref a0, .int (xs ((x4 + 1)).toNatClampNeg), .int (xs ((x4 + 2)).toNatClampNeg), .int (xs ((x4 + 3)).toNatClampNeg)]) (rest := []) ⟨hx, hb, hml, hown, hts⟩ (ctL_poke l htr D cI a0 a1 a2 a3 a4 a5 a6 a7 a8 a9 a10 a11 a12 a13 a14 a15 a16 u (xs ((x4 + 1)).toNatClampNeg) (xs ((x4 + 2)).toNatClampNeg) (xs ((x4 + 3)).toNatClampNeg) z_8 hz_8 H.size) (vx_cwSW 4 hts gL_law_L_poke rfl rfl rfl (by decide +kernel) ⟨Nat.le_of_ble_eq_true rfl, Nat.le_of_ble_eq_true rfl⟩) (gPreSX hXw hS hA hP (hK.sub [0] rfl) hD [0, 1, 2, 3, 4, 5, 6, 7, 8, 9, 10, 11, 12, 13, 14, 15, 16] (by decide) rfl) rfl rfl hl.1 rfl (lv_room (Nat.le_of_ble_eq_true rfl)) dL_law_111 ⟨Nat.le_trans (m := 601024) (by omega) (Nat.le_of_ble_eq_true rfl), Nat.le_trans (m := 7293034) (by omega) (Nat.le_of_ble_eq_true rfl)⟩) hP hD hS hA [0, 1, 2, 3, 4, 5, 6, 7, 8, 9, 10, 11, 12, 13, 14, 15, 16] [17, 18, 19, 20, 21, 22, 23, 24, 25, 26, 27, 28, 29, 30, 31] [15, 16, 17, 18, 19, 20, 21, 22, 23, 24, 25, 26, 27, 28, 29, 30, 31, 0, 1, 2, 3, 4, 5, 6, 7, 8, 9, 10, 11, 12, 13, 14] rfl rfl (by decide) (by decide) rfl (by decide) (fun H locs hP hD hS => ?_)
        obtain ⟨cells1, ec⟩ : ∃ y, y = cells + 1 := ⟨_, rfl⟩
        obtain ⟨slots1, es⟩ : ∃ y, y = slots + 6 := ⟨_, rfl⟩
        rw [← ec, ← es]
        replace hc : cells1 + nn ≤ 601024 := by omega
        replace hs : slots1 + 6 * nn ≤ 7293034 := by omega
        refine lv_istore (lv' := [(5, .int z_8.1), (0, .ref b), (1, .ref a0), (2, .ref m0), (3, .ref b0), (4, .int x4)]) hx hb dL_law_114 hl (by decide) rfl (fun ls hl => ?_)
        refine lv_aload_n hx hb dL_law_116 rfl (lv_at hl 3 rfl) ?_
        refine lv_aload_n hx hb dL_law_117 rfl (lv_at hl 1 rfl) ?_
        refine lv_iload hx hb dL_law_118 (lv_at hl 5 rfl) ?_
        refine lv_iconst (v := 1) hx hb dL_law_120 (by decide) ?_
        refine lv_iadd hx hb dL_law_121 ?_
        obtain ⟨h_9, hf⟩ := pIn_out hf
        refine va_sld hx hb hX hbl hbA hS h_9 dL_law_122 ?_
        refine lv_aload_n hx hb dL_law_123 rfl (lv_at hl 1 rfl) ?_
        refine lv_iload hx hb dL_law_124 (lv_at hl 5 rfl) ?_
        refine lv_iconst (v := 2) hx hb dL_law_126 (by decide) ?_
        refine lv_iadd hx hb dL_law_127 ?_
        obtain ⟨h_10, hf⟩ := pIn_out hf
        refine va_sld hx hb hX hbl hbA hS h_10 dL_law_128 ?_
        refine lv_aload_n hx hb dL_law_129 rfl (lv_at hl 1 rfl) ?_
        refine lv_iload hx hb dL_law_130 (lv_at hl 5 rfl) ?_
        refine lv_iconst (v := 3) hx hb dL_law_132 (by decide) ?_
        refine lv_iadd hx hb dL_law_133 ?_
        obtain ⟨h_11, hf⟩ := pIn_out hf
        refine va_sld hx hb hX hbl hbA hS h_11 dL_law_134 ?_
        obtain ⟨z_12, hz_12, hf⟩ := pB_out hf
        refine gV (w' := (wL a0 a1 a2 a3 a4 a5 a6 a7 a8 a9 a10 a11 a12 a13 a14 a15 a16 m0 m1 m2 m3 m4 m5 m6 m7 m8 m9 m10 m11 m12 m13 b0 cI cL (z_8.2) z_12 gg)) (va_runV (As := [.int (xs ((x4 + 1)).toNatClampNeg), .int (xs ((x4 + 2)).toNatClampNeg), .int (xs ((x4 + 3)).toNatClampNeg)]) (rest := []) ⟨hx, hb, hml, hown, hts⟩ (ctX5_poke l D cI m0 m1 m2 m3 m4 m5 m6 m7 m8 m9 m10 m11 m12 m13 v (xs ((x4 + 1)).toNatClampNeg) (xs ((x4 + 2)).toNatClampNeg) (xs ((x4 + 3)).toNatClampNeg) z_12 hz_12 H.size) (cwV 3 hts gL_law_X5_poke rfl rfl rfl (by decide +kernel) ⟨Nat.le_of_ble_eq_true rfl, Nat.le_of_ble_eq_true rfl⟩) (gPreV (ci := 4) (C := RX5) (T := TX5) (N := 27) hP (hK.sub [0] rfl) hD [17, 18, 19, 20, 21, 22, 23, 24, 25, 26, 27, 28, 29, 30] (by decide) rfl 17 rfl rfl) rfl rfl hl.1 rfl (lv_room (Nat.le_of_ble_eq_true rfl)) dL_law_135 ⟨Nat.le_trans (m := 601024) (by omega) (Nat.le_of_ble_eq_true rfl), Nat.le_trans (m := 7293034) (by omega) (Nat.le_of_ble_eq_true rfl)⟩) hP hD hS hA [17, 18, 19, 20, 21, 22, 23, 24, 25, 26, 27, 28, 29, 30] [0, 1, 2, 3, 4, 5, 6, 7, 8, 9, 10, 11, 12, 13, 14, 15, 16, 31] [0, 1, 2, 3, 4, 5, 6, 7, 8, 9, 10, 11, 12, 13, 14, 15, 16, 18, 19, 20, 21, 22, 23, 24, 25, 26, 27, 28, 29, 30, 31, 17] rfl rfl (by decide) (by decide) rfl (by decide) (fun H locs hP hD hS => ?_)
        refine lv_aload_n hx hb dL_law_138 rfl (lv_at hl 3 rfl) ?_
        obtain ⟨z_13, hz_13, hf⟩ := pLet_out hf
        refine gI (w' := (wL a0 a1 a2 a3 a4 a5 a6 a7 a8 a9 a10 a11 a12 a13 a14 a15 a16 m0 m1 m2 m3 m4 m5 m6 m7 m8 m9 m10 m11 m12 m13 b0 cI cL (z_8.2) z_12 gg)) (va_runV (As := []) (rest := []) ⟨hx, hb, hml, hown, hts⟩ (ctX5_thrown l D cI m0 m1 m2 m3 m4 m5 m6 m7 m8 m9 m10 m11 m12 m13 z_12 z_13 hz_13.symm H.size) (cwV 0 hts gL_law_X5_thrown rfl rfl rfl (by decide +kernel) ⟨Nat.le_of_ble_eq_true rfl, Nat.le_of_ble_eq_true rfl⟩) (gPreV (ci := 4) (C := RX5) (T := TX5) (N := 27) hP (hK.sub [0] rfl) hD [17, 18, 19, 20, 21, 22, 23, 24, 25, 26, 27, 28, 29, 30] (by decide) rfl 17 rfl rfl) rfl rfl hl.1 rfl (lv_room (Nat.le_of_ble_eq_true rfl)) dL_law_139 ⟨Nat.le_trans (m := 601024) (by omega) (Nat.le_of_ble_eq_true rfl), Nat.le_trans (m := 7293034) (by omega) (Nat.le_of_ble_eq_true rfl)⟩) hP hD hS hA [17, 18, 19, 20, 21, 22, 23, 24, 25, 26, 27, 28, 29, 30] [0, 1, 2, 3, 4, 5, 6, 7, 8, 9, 10, 11, 12, 13, 14, 15, 16, 31] [0, 1, 2, 3, 4, 5, 6, 7, 8, 9, 10, 11, 12, 13, 14, 15, 16, 18, 19, 20, 21, 22, 23, 24, 25, 26, 27, 28, 29, 30, 31, 17] rfl rfl (by decide) (by decide) rfl (by decide) (fun H locs hP hD hS => ?_)
        refine lv_iload hx hb dL_law_142 (lv_at hl 0 rfl) ?_
        refine lv_icmp_eq (tgt := 149) hx hb dL_law_144 (by decide) (fun c_14 => ?_) (fun c_14 => ?_)
        · replace hf := pI_t c_14 hf
          refine lv_goto (tgt := 597) hx hb dL_law_149 (by decide) ?_
          exact turn _ _ _ H locs ls _ _ (by omega) (by omega) hf hP hD hS (lv_sub hl [1, 2, 3, 4, 5] rfl)
        · replace hf := pI_f c_14 hf
          refine lv_iconst (v := 0) hx hb dL_law_147 (by decide) ?_
          exact absurd (Option.some.inj hf) (by decide)
      · replace hf := pI_f c_16 hf
        by_cases c_28 : x_3 = 1
        · replace hf := pI_t c_28 hf
          refine lv_tableIn (tgt := 152) (off := 113) hx hb dL_law_39 (by rw [c_28]; decide) (by rw [c_28]; decide) (by rw [c_28]; rfl) (by decide) ?_
          refine lv_aload_n hx hb dL_law_152 rfl (lv_at hl 1 rfl) ?_
          refine lv_aload_n hx hb dL_law_153 rfl (lv_at hl 0 rfl) ?_
          refine lv_iload hx hb dL_law_154 (lv_at hl 4 rfl) ?_
          refine lv_iconst (v := 1) hx hb dL_law_156 (by decide) ?_
          refine lv_iadd hx hb dL_law_157 ?_
          obtain ⟨h_17, hf⟩ := pIn_out hf
          refine va_sld hx hb hX hbl hbA hS h_17 dL_law_158 ?_
          refine lv_aload_n hx hb dL_law_159 rfl (lv_at hl 3 rfl) ?_
          obtain ⟨z_18, hz_18, hf⟩ := pB_out hf
          refine gW (w' := (wL a0 a1 a2 a3 a4 a5 a6 a7 a8 a9 a10 a11 a12 a13 a14 a15 a16 m0 m1 m2 m3 m4 m5 m6 m7 m8 m9 m10 m11 m12 m13 b0 cI cL (z_18.2.1) v (z_18.2.2))) (vx_runSW (hh := [(0, 9, 12, 13)]) (As := [.ref a0, .int (xs ((x4 + 1)).toNatClampNeg), .ref b0]) (rest := []) ⟨hx, hb, hml, hown, hts⟩ (ctL_peek l htr D cI cL a0 a1 a2 a3 a4 a5 a6 a7 a8 a9 a10 a11 a12 a13 a14 a15 a16 b0 u (xs ((x4 + 1)).toNatClampNeg) gg z_18 hz_18 H.size) (vx_cwSW 3 hts gL_law_L_peek rfl rfl rfl (by decide +kernel) ⟨Nat.le_of_ble_eq_true rfl, Nat.le_of_ble_eq_true rfl⟩) (gPreSX hXw hS hA hP hK hD [0, 1, 2, 3, 4, 5, 6, 7, 8, 9, 10, 11, 12, 13, 14, 15, 16, 31] (by decide) rfl) rfl rfl hl.1 rfl (lv_room (Nat.le_of_ble_eq_true rfl)) dL_law_160 ⟨Nat.le_trans (m := 601024) (by omega) (Nat.le_of_ble_eq_true rfl), Nat.le_trans (m := 7293034) (by omega) (Nat.le_of_ble_eq_true rfl)⟩) hP hD hS hA [0, 1, 2, 3, 4, 5, 6, 7, 8, 9, 10, 11, 12, 13, 14, 15, 16, 31] [17, 18, 19, 20, 21, 22, 23, 24, 25, 26, 27, 28, 29, 30] [14, 15, 16, 17, 18, 19, 20, 21, 22, 23, 24, 25, 26, 27, 28, 29, 30, 0, 1, 2, 3, 4, 5, 6, 7, 8, 9, 10, 11, 12, 13, 31] rfl rfl (by decide) (by decide) rfl (by decide) (fun H locs hP hD hS => ?_)
          obtain ⟨cells1, ec⟩ : ∃ y, y = cells + 1 := ⟨_, rfl⟩
          obtain ⟨slots1, es⟩ : ∃ y, y = slots + 6 := ⟨_, rfl⟩
          rw [← ec, ← es]
          replace hc : cells1 + nn ≤ 601024 := by omega
          replace hs : slots1 + 6 * nn ≤ 7293034 := by omega
          refine lv_istore (lv' := [(5, .int z_18.1), (0, .ref b), (1, .ref a0), (2, .ref m0), (3, .ref b0), (4, .int x4)]) hx hb dL_law_163 hl (by decide) rfl (fun ls hl => ?_)
          refine lv_aload_n hx hb dL_law_165 rfl (lv_at hl 3 rfl) ?_
          refine lv_aload_n hx hb dL_law_166 rfl (lv_at hl 1 rfl) ?_
          refine lv_iload hx hb dL_law_167 (lv_at hl 5 rfl) ?_
          refine lv_iconst (v := 1) hx hb dL_law_169 (by decide) ?_
          refine lv_iadd hx hb dL_law_170 ?_
          obtain ⟨h_19, hf⟩ := pIn_out hf
          refine va_sld hx hb hX hbl hbA hS h_19 dL_law_171 ?_
          obtain ⟨z_20, hz_20, hf⟩ := pB_out hf
          refine gI (w' := (wL a0 a1 a2 a3 a4 a5 a6 a7 a8 a9 a10 a11 a12 a13 a14 a15 a16 m0 m1 m2 m3 m4 m5 m6 m7 m8 m9 m10 m11 m12 m13 b0 cI cL (z_18.2.1) (z_20.2) (z_18.2.2))) (va_runV (As := [.int (xs ((x4 + 1)).toNatClampNeg)]) (rest := []) ⟨hx, hb, hml, hown, hts⟩ (ctX5_peek l D cI m0 m1 m2 m3 m4 m5 m6 m7 m8 m9 m10 m11 m12 m13 v (xs ((x4 + 1)).toNatClampNeg) z_20 hz_20 H.size) (cwV 1 hts gL_law_X5_peek rfl rfl rfl (by decide +kernel) ⟨Nat.le_of_ble_eq_true rfl, Nat.le_of_ble_eq_true rfl⟩) (gPreV (ci := 4) (C := RX5) (T := TX5) (N := 27) hP (hK.sub [0] rfl) hD [17, 18, 19, 20, 21, 22, 23, 24, 25, 26, 27, 28, 29, 30] (by decide) rfl 17 rfl rfl) rfl rfl hl.1 rfl (lv_room (Nat.le_of_ble_eq_true rfl)) dL_law_172 ⟨Nat.le_trans (m := 601024) (by omega) (Nat.le_of_ble_eq_true rfl), Nat.le_trans (m := 7293034) (by omega) (Nat.le_of_ble_eq_true rfl)⟩) hP hD hS hA [17, 18, 19, 20, 21, 22, 23, 24, 25, 26, 27, 28, 29, 30] [0, 1, 2, 3, 4, 5, 6, 7, 8, 9, 10, 11, 12, 13, 14, 15, 16, 31] [0, 1, 2, 3, 4, 5, 6, 7, 8, 9, 10, 11, 12, 13, 14, 15, 16, 18, 19, 20, 21, 22, 23, 24, 25, 26, 27, 28, 29, 30, 31, 17] rfl rfl (by decide) (by decide) rfl (by decide) (fun H locs hP hD hS => ?_)
          refine lv_istore (lv' := [(6, .int z_20.1), (5, .int z_18.1), (0, .ref b), (1, .ref a0), (2, .ref m0), (3, .ref b0), (4, .int x4)]) hx hb dL_law_175 hl (by decide) rfl (fun ls hl => ?_)
          refine lv_aload_n hx hb dL_law_177 rfl (lv_at hl 4 rfl) ?_
          obtain ⟨z_21, hz_21, hf⟩ := pLet_out hf
          refine gI (w' := (wL a0 a1 a2 a3 a4 a5 a6 a7 a8 a9 a10 a11 a12 a13 a14 a15 a16 m0 m1 m2 m3 m4 m5 m6 m7 m8 m9 m10 m11 m12 m13 b0 cI cL (z_18.2.1) (z_20.2) (z_18.2.2))) (va_runV (As := []) (rest := []) ⟨hx, hb, hml, hown, hts⟩ (ctX5_thrown l D cI m0 m1 m2 m3 m4 m5 m6 m7 m8 m9 m10 m11 m12 m13 (z_20.2) z_21 hz_21.symm H.size) (cwV 0 hts gL_law_X5_thrown rfl rfl rfl (by decide +kernel) ⟨Nat.le_of_ble_eq_true rfl, Nat.le_of_ble_eq_true rfl⟩) (gPreV (ci := 4) (C := RX5) (T := TX5) (N := 27) hP (hK.sub [0] rfl) hD [17, 18, 19, 20, 21, 22, 23, 24, 25, 26, 27, 28, 29, 30] (by decide) rfl 17 rfl rfl) rfl rfl hl.1 rfl (lv_room (Nat.le_of_ble_eq_true rfl)) dL_law_178 ⟨Nat.le_trans (m := 601024) (by omega) (Nat.le_of_ble_eq_true rfl), Nat.le_trans (m := 7293034) (by omega) (Nat.le_of_ble_eq_true rfl)⟩) hP hD hS hA [17, 18, 19, 20, 21, 22, 23, 24, 25, 26, 27, 28, 29, 30] [0, 1, 2, 3, 4, 5, 6, 7, 8, 9, 10, 11, 12, 13, 14, 15, 16, 31] [0, 1, 2, 3, 4, 5, 6, 7, 8, 9, 10, 11, 12, 13, 14, 15, 16, 18, 19, 20, 21, 22, 23, 24, 25, 26, 27, 28, 29, 30, 31, 17] rfl rfl (by decide) (by decide) rfl (by decide) (fun H locs hP hD hS => ?_)
          refine lv_iload hx hb dL_law_181 (lv_at hl 1 rfl) ?_
          refine lv_icmp_eq (tgt := 188) hx hb dL_law_183 (by decide) (fun c_22 => ?_) (fun c_22 => ?_)
          · replace hf := pI_t c_22 hf
            refine lv_iload hx hb dL_law_188 (lv_at hl 1 rfl) ?_
            refine lv_if_ne (tgt := 205) hx hb dL_law_190 (by decide) (fun c_23 => ?_) (fun c_23 => ?_)
            · replace hf := pI_f c_23 hf
              refine lv_goto (tgt := 597) hx hb dL_law_205 (by decide) ?_
              exact turn _ _ _ H locs ls _ _ (by omega) (by omega) hf hP hD hS (lv_sub hl [2, 3, 4, 5, 6] rfl)
            · replace hf := pI_t c_23 hf
              refine lv_aload_n hx hb dL_law_193 rfl (lv_at hl 5 rfl) ?_
              refine lv_iconst (v := 0) hx hb dL_law_194 (by decide) ?_
              obtain ⟨h_25, hf⟩ := pIn_out hf
              refine va_lald hx hb hK hP 31 1 rfl rfl h_25 dL_law_195 ?_
              refine lv_iload hx hb dL_law_196 (lv_at hl 0 rfl) ?_
              refine lv_i2l (v := (z_20.1).toInt64) hx hb dL_law_198 rfl ?_
              refine W.lcmp hx hb dL_law_199 ?_
              refine lv_if_eq (tgt := 205) hx hb dL_law_200 (by decide) (fun c_26 => ?_) (fun c_26 => ?_)
              · replace hf := pI_t c_26 hf
                refine lv_goto (tgt := 597) hx hb dL_law_205 (by decide) ?_
                exact turn _ _ _ H locs ls _ _ (by omega) (by omega) hf hP hD hS (lv_sub hl [2, 3, 4, 5, 6] rfl)
              · replace hf := pI_f c_26 hf
                refine lv_iconst (v := 0) hx hb dL_law_203 (by decide) ?_
                exact absurd (Option.some.inj hf) (by decide)
          · replace hf := pI_f c_22 hf
            refine lv_iconst (v := 0) hx hb dL_law_186 (by decide) ?_
            exact absurd (Option.some.inj hf) (by decide)
        · replace hf := pI_f c_28 hf
          by_cases c_38 : x_3 = 2
          · replace hf := pI_t c_38 hf
            refine lv_tableIn (tgt := 208) (off := 169) hx hb dL_law_39 (by rw [c_38]; decide) (by rw [c_38]; decide) (by rw [c_38]; rfl) (by decide) ?_
            refine lv_aload_n hx hb dL_law_208 rfl (lv_at hl 1 rfl) ?_
            refine lv_aload_n hx hb dL_law_209 rfl (lv_at hl 0 rfl) ?_
            refine lv_iload hx hb dL_law_210 (lv_at hl 4 rfl) ?_
            refine lv_iconst (v := 1) hx hb dL_law_212 (by decide) ?_
            refine lv_iadd hx hb dL_law_213 ?_
            obtain ⟨h_29, hf⟩ := pIn_out hf
            refine va_sld hx hb hX hbl hbA hS h_29 dL_law_214 ?_
            refine lv_aload_n hx hb dL_law_215 rfl (lv_at hl 0 rfl) ?_
            refine lv_iload hx hb dL_law_216 (lv_at hl 4 rfl) ?_
            refine lv_iconst (v := 2) hx hb dL_law_218 (by decide) ?_
            refine lv_iadd hx hb dL_law_219 ?_
            obtain ⟨h_30, hf⟩ := pIn_out hf
            refine va_sld hx hb hX hbl hbA hS h_30 dL_law_220 ?_
            obtain ⟨z_31, hz_31, hf⟩ := pB_out hf
            refine gW (w' := (wL a0 a1 a2 a3 a4 a5 a6 a7 a8 a9 a10 a11 a12 a13 a14 a15 a16 m0 m1 m2 m3 m4 m5 m6 m7 m8 m9 m10 m11 m12 m13 b0 cI cL (z_31.2) v gg)) (vx_runSW (hh := [(0, 6, 9, 13)]) (As := [.ref a0, .int (xs ((x4 + 1)).toNatClampNeg), .int (xs ((x4 + 2)).toNatClampNeg)]) (rest := []) ⟨hx, hb, hml, hown, hts⟩ (ctL_set l htr D cI a0 a1 a2 a3 a4 a5 a6 a7 a8 a9 a10 a11 a12 a13 a14 a15 a16 u (xs ((x4 + 1)).toNatClampNeg) (xs ((x4 + 2)).toNatClampNeg) z_31 hz_31 H.size) (vx_cwSW 3 hts gL_law_L_set rfl rfl rfl (by decide +kernel) ⟨Nat.le_of_ble_eq_true rfl, Nat.le_of_ble_eq_true rfl⟩) (gPreSX hXw hS hA hP (hK.sub [0] rfl) hD [0, 1, 2, 3, 4, 5, 6, 7, 8, 9, 10, 11, 12, 13, 14, 15, 16] (by decide) rfl) rfl rfl hl.1 rfl (lv_room (Nat.le_of_ble_eq_true rfl)) dL_law_221 ⟨Nat.le_trans (m := 601024) (by omega) (Nat.le_of_ble_eq_true rfl), Nat.le_trans (m := 7293034) (by omega) (Nat.le_of_ble_eq_true rfl)⟩) hP hD hS hA [0, 1, 2, 3, 4, 5, 6, 7, 8, 9, 10, 11, 12, 13, 14, 15, 16] [17, 18, 19, 20, 21, 22, 23, 24, 25, 26, 27, 28, 29, 30, 31] [15, 16, 17, 18, 19, 20, 21, 22, 23, 24, 25, 26, 27, 28, 29, 30, 31, 0, 1, 2, 3, 4, 5, 6, 7, 8, 9, 10, 11, 12, 13, 14] rfl rfl (by decide) (by decide) rfl (by decide) (fun H locs hP hD hS => ?_)
            obtain ⟨cells1, ec⟩ : ∃ y, y = cells + 1 := ⟨_, rfl⟩
            obtain ⟨slots1, es⟩ : ∃ y, y = slots + 6 := ⟨_, rfl⟩
            rw [← ec, ← es]
            replace hc : cells1 + nn ≤ 601024 := by omega
            replace hs : slots1 + 6 * nn ≤ 7293034 := by omega
            refine lv_istore (lv' := [(5, .int z_31.1), (0, .ref b), (1, .ref a0), (2, .ref m0), (3, .ref b0), (4, .int x4)]) hx hb dL_law_224 hl (by decide) rfl (fun ls hl => ?_)
            refine lv_aload_n hx hb dL_law_226 rfl (lv_at hl 3 rfl) ?_
            refine lv_aload_n hx hb dL_law_227 rfl (lv_at hl 1 rfl) ?_
            refine lv_iload hx hb dL_law_228 (lv_at hl 5 rfl) ?_
            refine lv_iconst (v := 1) hx hb dL_law_230 (by decide) ?_
            refine lv_iadd hx hb dL_law_231 ?_
            obtain ⟨h_32, hf⟩ := pIn_out hf
            refine va_sld hx hb hX hbl hbA hS h_32 dL_law_232 ?_
            refine lv_aload_n hx hb dL_law_233 rfl (lv_at hl 1 rfl) ?_
            refine lv_iload hx hb dL_law_234 (lv_at hl 5 rfl) ?_
            refine lv_iconst (v := 2) hx hb dL_law_236 (by decide) ?_
            refine lv_iadd hx hb dL_law_237 ?_
            obtain ⟨h_33, hf⟩ := pIn_out hf
            refine va_sld hx hb hX hbl hbA hS h_33 dL_law_238 ?_
            obtain ⟨z_34, hz_34, hf⟩ := pB_out hf
            refine gV (w' := (wL a0 a1 a2 a3 a4 a5 a6 a7 a8 a9 a10 a11 a12 a13 a14 a15 a16 m0 m1 m2 m3 m4 m5 m6 m7 m8 m9 m10 m11 m12 m13 b0 cI cL (z_31.2) z_34 gg)) (va_runV (As := [.int (xs ((x4 + 1)).toNatClampNeg), .int (xs ((x4 + 2)).toNatClampNeg)]) (rest := []) ⟨hx, hb, hml, hown, hts⟩ (ctX5_set l D cI m0 m1 m2 m3 m4 m5 m6 m7 m8 m9 m10 m11 m12 m13 v (xs ((x4 + 1)).toNatClampNeg) (xs ((x4 + 2)).toNatClampNeg) z_34 hz_34 H.size) (cwV 2 hts gL_law_X5_set rfl rfl rfl (by decide +kernel) ⟨Nat.le_of_ble_eq_true rfl, Nat.le_of_ble_eq_true rfl⟩) (gPreV (ci := 4) (C := RX5) (T := TX5) (N := 27) hP (hK.sub [0] rfl) hD [17, 18, 19, 20, 21, 22, 23, 24, 25, 26, 27, 28, 29, 30] (by decide) rfl 17 rfl rfl) rfl rfl hl.1 rfl (lv_room (Nat.le_of_ble_eq_true rfl)) dL_law_239 ⟨Nat.le_trans (m := 601024) (by omega) (Nat.le_of_ble_eq_true rfl), Nat.le_trans (m := 7293034) (by omega) (Nat.le_of_ble_eq_true rfl)⟩) hP hD hS hA [17, 18, 19, 20, 21, 22, 23, 24, 25, 26, 27, 28, 29, 30] [0, 1, 2, 3, 4, 5, 6, 7, 8, 9, 10, 11, 12, 13, 14, 15, 16, 31] [0, 1, 2, 3, 4, 5, 6, 7, 8, 9, 10, 11, 12, 13, 14, 15, 16, 18, 19, 20, 21, 22, 23, 24, 25, 26, 27, 28, 29, 30, 31, 17] rfl rfl (by decide) (by decide) rfl (by decide) (fun H locs hP hD hS => ?_)
            refine lv_aload_n hx hb dL_law_242 rfl (lv_at hl 3 rfl) ?_
            obtain ⟨z_35, hz_35, hf⟩ := pLet_out hf
            refine gI (w' := (wL a0 a1 a2 a3 a4 a5 a6 a7 a8 a9 a10 a11 a12 a13 a14 a15 a16 m0 m1 m2 m3 m4 m5 m6 m7 m8 m9 m10 m11 m12 m13 b0 cI cL (z_31.2) z_34 gg)) (va_runV (As := []) (rest := []) ⟨hx, hb, hml, hown, hts⟩ (ctX5_thrown l D cI m0 m1 m2 m3 m4 m5 m6 m7 m8 m9 m10 m11 m12 m13 z_34 z_35 hz_35.symm H.size) (cwV 0 hts gL_law_X5_thrown rfl rfl rfl (by decide +kernel) ⟨Nat.le_of_ble_eq_true rfl, Nat.le_of_ble_eq_true rfl⟩) (gPreV (ci := 4) (C := RX5) (T := TX5) (N := 27) hP (hK.sub [0] rfl) hD [17, 18, 19, 20, 21, 22, 23, 24, 25, 26, 27, 28, 29, 30] (by decide) rfl 17 rfl rfl) rfl rfl hl.1 rfl (lv_room (Nat.le_of_ble_eq_true rfl)) dL_law_243 ⟨Nat.le_trans (m := 601024) (by omega) (Nat.le_of_ble_eq_true rfl), Nat.le_trans (m := 7293034) (by omega) (Nat.le_of_ble_eq_true rfl)⟩) hP hD hS hA [17, 18, 19, 20, 21, 22, 23, 24, 25, 26, 27, 28, 29, 30] [0, 1, 2, 3, 4, 5, 6, 7, 8, 9, 10, 11, 12, 13, 14, 15, 16, 31] [0, 1, 2, 3, 4, 5, 6, 7, 8, 9, 10, 11, 12, 13, 14, 15, 16, 18, 19, 20, 21, 22, 23, 24, 25, 26, 27, 28, 29, 30, 31, 17] rfl rfl (by decide) (by decide) rfl (by decide) (fun H locs hP hD hS => ?_)
            refine lv_iload hx hb dL_law_246 (lv_at hl 0 rfl) ?_
            refine lv_icmp_eq (tgt := 253) hx hb dL_law_248 (by decide) (fun c_36 => ?_) (fun c_36 => ?_)
            · replace hf := pI_t c_36 hf
              refine lv_goto (tgt := 597) hx hb dL_law_253 (by decide) ?_
              exact turn _ _ _ H locs ls _ _ (by omega) (by omega) hf hP hD hS (lv_sub hl [1, 2, 3, 4, 5] rfl)
            · replace hf := pI_f c_36 hf
              refine lv_iconst (v := 0) hx hb dL_law_251 (by decide) ?_
              exact absurd (Option.some.inj hf) (by decide)
          · replace hf := pI_f c_38 hf
            by_cases c_50 : x_3 = 3
            · replace hf := pI_t c_50 hf
              refine lv_tableIn (tgt := 256) (off := 217) hx hb dL_law_39 (by rw [c_50]; decide) (by rw [c_50]; decide) (by rw [c_50]; rfl) (by decide) ?_
              refine lv_aload_n hx hb dL_law_256 rfl (lv_at hl 1 rfl) ?_
              refine lv_aload_n hx hb dL_law_257 rfl (lv_at hl 0 rfl) ?_
              refine lv_iload hx hb dL_law_258 (lv_at hl 4 rfl) ?_
              refine lv_iconst (v := 1) hx hb dL_law_260 (by decide) ?_
              refine lv_iadd hx hb dL_law_261 ?_
              obtain ⟨h_39, hf⟩ := pIn_out hf
              refine va_sld hx hb hX hbl hbA hS h_39 dL_law_262 ?_
              refine lv_aload_n hx hb dL_law_263 rfl (lv_at hl 3 rfl) ?_
              obtain ⟨z_40, hz_40, hf⟩ := pB_out hf
              refine gW (w' := (wL a0 a1 a2 a3 a4 a5 a6 a7 a8 a9 a10 a11 a12 a13 a14 a15 a16 m0 m1 m2 m3 m4 m5 m6 m7 m8 m9 m10 m11 m12 m13 b0 cI cL (z_40.2.1) v (z_40.2.2))) (vx_runSW (hh := [(0, 9, 12, 13)]) (As := [.ref a0, .int (xs ((x4 + 1)).toNatClampNeg), .ref b0]) (rest := []) ⟨hx, hb, hml, hown, hts⟩ (ctL_get l htr D cI cL a0 a1 a2 a3 a4 a5 a6 a7 a8 a9 a10 a11 a12 a13 a14 a15 a16 b0 u (xs ((x4 + 1)).toNatClampNeg) gg z_40 hz_40 H.size) (vx_cwSW 3 hts gL_law_L_get rfl rfl rfl (by decide +kernel) ⟨Nat.le_of_ble_eq_true rfl, Nat.le_of_ble_eq_true rfl⟩) (gPreSX hXw hS hA hP hK hD [0, 1, 2, 3, 4, 5, 6, 7, 8, 9, 10, 11, 12, 13, 14, 15, 16, 31] (by decide) rfl) rfl rfl hl.1 rfl (lv_room (Nat.le_of_ble_eq_true rfl)) dL_law_264 ⟨Nat.le_trans (m := 601024) (by omega) (Nat.le_of_ble_eq_true rfl), Nat.le_trans (m := 7293034) (by omega) (Nat.le_of_ble_eq_true rfl)⟩) hP hD hS hA [0, 1, 2, 3, 4, 5, 6, 7, 8, 9, 10, 11, 12, 13, 14, 15, 16, 31] [17, 18, 19, 20, 21, 22, 23, 24, 25, 26, 27, 28, 29, 30] [14, 15, 16, 17, 18, 19, 20, 21, 22, 23, 24, 25, 26, 27, 28, 29, 30, 0, 1, 2, 3, 4, 5, 6, 7, 8, 9, 10, 11, 12, 13, 31] rfl rfl (by decide) (by decide) rfl (by decide) (fun H locs hP hD hS => ?_)
              obtain ⟨cells1, ec⟩ : ∃ y, y = cells + 1 := ⟨_, rfl⟩
              obtain ⟨slots1, es⟩ : ∃ y, y = slots + 6 := ⟨_, rfl⟩
              rw [← ec, ← es]
              replace hc : cells1 + nn ≤ 601024 := by omega
              replace hs : slots1 + 6 * nn ≤ 7293034 := by omega
              refine lv_istore (lv' := [(5, .int z_40.1), (0, .ref b), (1, .ref a0), (2, .ref m0), (3, .ref b0), (4, .int x4)]) hx hb dL_law_267 hl (by decide) rfl (fun ls hl => ?_)
              refine lv_aload_n hx hb dL_law_269 rfl (lv_at hl 3 rfl) ?_
              refine lv_aload_n hx hb dL_law_270 rfl (lv_at hl 1 rfl) ?_
              refine lv_iload hx hb dL_law_271 (lv_at hl 5 rfl) ?_
              refine lv_iconst (v := 1) hx hb dL_law_273 (by decide) ?_
              refine lv_iadd hx hb dL_law_274 ?_
              obtain ⟨h_41, hf⟩ := pIn_out hf
              refine va_sld hx hb hX hbl hbA hS h_41 dL_law_275 ?_
              obtain ⟨z_42, hz_42, hf⟩ := pB_out hf
              refine gI (w' := (wL a0 a1 a2 a3 a4 a5 a6 a7 a8 a9 a10 a11 a12 a13 a14 a15 a16 m0 m1 m2 m3 m4 m5 m6 m7 m8 m9 m10 m11 m12 m13 b0 cI cL (z_40.2.1) (z_42.2) (z_40.2.2))) (va_runV (As := [.int (xs ((x4 + 1)).toNatClampNeg)]) (rest := []) ⟨hx, hb, hml, hown, hts⟩ (ctX5_get l D cI m0 m1 m2 m3 m4 m5 m6 m7 m8 m9 m10 m11 m12 m13 v (xs ((x4 + 1)).toNatClampNeg) z_42 hz_42 H.size) (cwV 1 hts gL_law_X5_get rfl rfl rfl (by decide +kernel) ⟨Nat.le_of_ble_eq_true rfl, Nat.le_of_ble_eq_true rfl⟩) (gPreV (ci := 4) (C := RX5) (T := TX5) (N := 27) hP (hK.sub [0] rfl) hD [17, 18, 19, 20, 21, 22, 23, 24, 25, 26, 27, 28, 29, 30] (by decide) rfl 17 rfl rfl) rfl rfl hl.1 rfl (lv_room (Nat.le_of_ble_eq_true rfl)) dL_law_276 ⟨Nat.le_trans (m := 601024) (by omega) (Nat.le_of_ble_eq_true rfl), Nat.le_trans (m := 7293034) (by omega) (Nat.le_of_ble_eq_true rfl)⟩) hP hD hS hA [17, 18, 19, 20, 21, 22, 23, 24, 25, 26, 27, 28, 29, 30] [0, 1, 2, 3, 4, 5, 6, 7, 8, 9, 10, 11, 12, 13, 14, 15, 16, 31] [0, 1, 2, 3, 4, 5, 6, 7, 8, 9, 10, 11, 12, 13, 14, 15, 16, 18, 19, 20, 21, 22, 23, 24, 25, 26, 27, 28, 29, 30, 31, 17] rfl rfl (by decide) (by decide) rfl (by decide) (fun H locs hP hD hS => ?_)
              refine lv_istore (lv' := [(6, .int z_42.1), (5, .int z_40.1), (0, .ref b), (1, .ref a0), (2, .ref m0), (3, .ref b0), (4, .int x4)]) hx hb dL_law_279 hl (by decide) rfl (fun ls hl => ?_)
              refine lv_aload_n hx hb dL_law_281 rfl (lv_at hl 4 rfl) ?_
              obtain ⟨z_43, hz_43, hf⟩ := pLet_out hf
              refine gI (w' := (wL a0 a1 a2 a3 a4 a5 a6 a7 a8 a9 a10 a11 a12 a13 a14 a15 a16 m0 m1 m2 m3 m4 m5 m6 m7 m8 m9 m10 m11 m12 m13 b0 cI cL (z_40.2.1) (z_42.2) (z_40.2.2))) (va_runV (As := []) (rest := []) ⟨hx, hb, hml, hown, hts⟩ (ctX5_thrown l D cI m0 m1 m2 m3 m4 m5 m6 m7 m8 m9 m10 m11 m12 m13 (z_42.2) z_43 hz_43.symm H.size) (cwV 0 hts gL_law_X5_thrown rfl rfl rfl (by decide +kernel) ⟨Nat.le_of_ble_eq_true rfl, Nat.le_of_ble_eq_true rfl⟩) (gPreV (ci := 4) (C := RX5) (T := TX5) (N := 27) hP (hK.sub [0] rfl) hD [17, 18, 19, 20, 21, 22, 23, 24, 25, 26, 27, 28, 29, 30] (by decide) rfl 17 rfl rfl) rfl rfl hl.1 rfl (lv_room (Nat.le_of_ble_eq_true rfl)) dL_law_282 ⟨Nat.le_trans (m := 601024) (by omega) (Nat.le_of_ble_eq_true rfl), Nat.le_trans (m := 7293034) (by omega) (Nat.le_of_ble_eq_true rfl)⟩) hP hD hS hA [17, 18, 19, 20, 21, 22, 23, 24, 25, 26, 27, 28, 29, 30] [0, 1, 2, 3, 4, 5, 6, 7, 8, 9, 10, 11, 12, 13, 14, 15, 16, 31] [0, 1, 2, 3, 4, 5, 6, 7, 8, 9, 10, 11, 12, 13, 14, 15, 16, 18, 19, 20, 21, 22, 23, 24, 25, 26, 27, 28, 29, 30, 31, 17] rfl rfl (by decide) (by decide) rfl (by decide) (fun H locs hP hD hS => ?_)
              refine lv_iload hx hb dL_law_285 (lv_at hl 1 rfl) ?_
              refine lv_icmp_eq (tgt := 292) hx hb dL_law_287 (by decide) (fun c_44 => ?_) (fun c_44 => ?_)
              · replace hf := pI_t c_44 hf
                refine lv_iload hx hb dL_law_292 (lv_at hl 1 rfl) ?_
                refine lv_if_ne (tgt := 309) hx hb dL_law_294 (by decide) (fun c_45 => ?_) (fun c_45 => ?_)
                · replace hf := pI_f c_45 hf
                  refine lv_goto (tgt := 597) hx hb dL_law_309 (by decide) ?_
                  exact turn _ _ _ H locs ls _ _ (by omega) (by omega) hf hP hD hS (lv_sub hl [2, 3, 4, 5, 6] rfl)
                · replace hf := pI_t c_45 hf
                  refine lv_aload_n hx hb dL_law_297 rfl (lv_at hl 5 rfl) ?_
                  refine lv_iconst (v := 0) hx hb dL_law_298 (by decide) ?_
                  obtain ⟨h_47, hf⟩ := pIn_out hf
                  refine va_lald hx hb hK hP 31 1 rfl rfl h_47 dL_law_299 ?_
                  refine lv_iload hx hb dL_law_300 (lv_at hl 0 rfl) ?_
                  refine lv_i2l (v := (z_42.1).toInt64) hx hb dL_law_302 rfl ?_
                  refine W.lcmp hx hb dL_law_303 ?_
                  refine lv_if_eq (tgt := 309) hx hb dL_law_304 (by decide) (fun c_48 => ?_) (fun c_48 => ?_)
                  · replace hf := pI_t c_48 hf
                    refine lv_goto (tgt := 597) hx hb dL_law_309 (by decide) ?_
                    exact turn _ _ _ H locs ls _ _ (by omega) (by omega) hf hP hD hS (lv_sub hl [2, 3, 4, 5, 6] rfl)
                  · replace hf := pI_f c_48 hf
                    refine lv_iconst (v := 0) hx hb dL_law_307 (by decide) ?_
                    exact absurd (Option.some.inj hf) (by decide)
              · replace hf := pI_f c_44 hf
                refine lv_iconst (v := 0) hx hb dL_law_290 (by decide) ?_
                exact absurd (Option.some.inj hf) (by decide)
            · replace hf := pI_f c_50 hf
              by_cases c_62 : x_3 = 4
              · replace hf := pI_t c_62 hf
                refine lv_tableIn (tgt := 312) (off := 273) hx hb dL_law_39 (by rw [c_62]; decide) (by rw [c_62]; decide) (by rw [c_62]; rfl) (by decide) ?_
                refine lv_aload_n hx hb dL_law_312 rfl (lv_at hl 1 rfl) ?_
                refine lv_aload_n hx hb dL_law_313 rfl (lv_at hl 0 rfl) ?_
                refine lv_iload hx hb dL_law_314 (lv_at hl 4 rfl) ?_
                refine lv_iconst (v := 1) hx hb dL_law_316 (by decide) ?_
                refine lv_iadd hx hb dL_law_317 ?_
                obtain ⟨h_51, hf⟩ := pIn_out hf
                refine va_sld hx hb hX hbl hbA hS h_51 dL_law_318 ?_
                refine lv_aload_n hx hb dL_law_319 rfl (lv_at hl 3 rfl) ?_
                obtain ⟨z_52, hz_52, hf⟩ := pB_out hf
                refine gW (w' := (wL a0 a1 a2 a3 a4 a5 a6 a7 a8 a9 a10 a11 a12 a13 a14 a15 a16 m0 m1 m2 m3 m4 m5 m6 m7 m8 m9 m10 m11 m12 m13 b0 cI cL (z_52.2.1) v (z_52.2.2))) (vx_runSW (hh := [(0, 9, 12, 13), (0, 9, 15, 29)]) (As := [.ref a0, .int (xs ((x4 + 1)).toNatClampNeg), .ref b0]) (rest := []) ⟨hx, hb, hml, hown, hts⟩ (ctL_input l htr D cI cL a0 a1 a2 a3 a4 a5 a6 a7 a8 a9 a10 a11 a12 a13 a14 a15 a16 b0 u (xs ((x4 + 1)).toNatClampNeg) gg z_52 hz_52 H.size) (vx_cwSW 3 hts gL_law_L_input rfl rfl rfl (by decide +kernel) ⟨Nat.le_of_ble_eq_true rfl, Nat.le_of_ble_eq_true rfl⟩) (gPreSX hXw hS hA hP hK hD [0, 1, 2, 3, 4, 5, 6, 7, 8, 9, 10, 11, 12, 13, 14, 15, 16, 31] (by decide) rfl) rfl rfl hl.1 rfl (lv_room (Nat.le_of_ble_eq_true rfl)) dL_law_320 ⟨Nat.le_trans (m := 601024) (by omega) (Nat.le_of_ble_eq_true rfl), Nat.le_trans (m := 7293034) (by omega) (Nat.le_of_ble_eq_true rfl)⟩) hP hD hS hA [0, 1, 2, 3, 4, 5, 6, 7, 8, 9, 10, 11, 12, 13, 14, 15, 16, 31] [17, 18, 19, 20, 21, 22, 23, 24, 25, 26, 27, 28, 29, 30] [14, 15, 16, 17, 18, 19, 20, 21, 22, 23, 24, 25, 26, 27, 28, 29, 30, 0, 1, 2, 3, 4, 5, 6, 7, 8, 9, 10, 11, 12, 13, 31] rfl rfl (by decide) (by decide) rfl (by decide) (fun H locs hP hD hS => ?_)
                obtain ⟨cells1, ec⟩ : ∃ y, y = cells + 1 := ⟨_, rfl⟩
                obtain ⟨slots1, es⟩ : ∃ y, y = slots + 6 := ⟨_, rfl⟩
                rw [← ec, ← es]
                replace hc : cells1 + nn ≤ 601024 := by omega
                replace hs : slots1 + 6 * nn ≤ 7293034 := by omega
                refine lv_istore (lv' := [(5, .int z_52.1), (0, .ref b), (1, .ref a0), (2, .ref m0), (3, .ref b0), (4, .int x4)]) hx hb dL_law_323 hl (by decide) rfl (fun ls hl => ?_)
                refine lv_aload_n hx hb dL_law_325 rfl (lv_at hl 3 rfl) ?_
                refine lv_aload_n hx hb dL_law_326 rfl (lv_at hl 1 rfl) ?_
                refine lv_iload hx hb dL_law_327 (lv_at hl 5 rfl) ?_
                refine lv_iconst (v := 1) hx hb dL_law_329 (by decide) ?_
                refine lv_iadd hx hb dL_law_330 ?_
                obtain ⟨h_53, hf⟩ := pIn_out hf
                refine va_sld hx hb hX hbl hbA hS h_53 dL_law_331 ?_
                obtain ⟨z_54, hz_54, hf⟩ := pB_out hf
                refine gI (w' := (wL a0 a1 a2 a3 a4 a5 a6 a7 a8 a9 a10 a11 a12 a13 a14 a15 a16 m0 m1 m2 m3 m4 m5 m6 m7 m8 m9 m10 m11 m12 m13 b0 cI cL (z_52.2.1) (z_54.2) (z_52.2.2))) (va_runV (As := [.int (xs ((x4 + 1)).toNatClampNeg)]) (rest := []) ⟨hx, hb, hml, hown, hts⟩ (ctX5_input l D cI m0 m1 m2 m3 m4 m5 m6 m7 m8 m9 m10 m11 m12 m13 v (xs ((x4 + 1)).toNatClampNeg) z_54 hz_54 H.size) (cwV 1 hts gL_law_X5_input rfl rfl rfl (by decide +kernel) ⟨Nat.le_of_ble_eq_true rfl, Nat.le_of_ble_eq_true rfl⟩) (gPreV (ci := 4) (C := RX5) (T := TX5) (N := 27) hP (hK.sub [0] rfl) hD [17, 18, 19, 20, 21, 22, 23, 24, 25, 26, 27, 28, 29, 30] (by decide) rfl 17 rfl rfl) rfl rfl hl.1 rfl (lv_room (Nat.le_of_ble_eq_true rfl)) dL_law_332 ⟨Nat.le_trans (m := 601024) (by omega) (Nat.le_of_ble_eq_true rfl), Nat.le_trans (m := 7293034) (by omega) (Nat.le_of_ble_eq_true rfl)⟩) hP hD hS hA [17, 18, 19, 20, 21, 22, 23, 24, 25, 26, 27, 28, 29, 30] [0, 1, 2, 3, 4, 5, 6, 7, 8, 9, 10, 11, 12, 13, 14, 15, 16, 31] [0, 1, 2, 3, 4, 5, 6, 7, 8, 9, 10, 11, 12, 13, 14, 15, 16, 18, 19, 20, 21, 22, 23, 24, 25, 26, 27, 28, 29, 30, 31, 17] rfl rfl (by decide) (by decide) rfl (by decide) (fun H locs hP hD hS => ?_)
                refine lv_istore (lv' := [(6, .int z_54.1), (5, .int z_52.1), (0, .ref b), (1, .ref a0), (2, .ref m0), (3, .ref b0), (4, .int x4)]) hx hb dL_law_335 hl (by decide) rfl (fun ls hl => ?_)
                refine lv_aload_n hx hb dL_law_337 rfl (lv_at hl 4 rfl) ?_
                obtain ⟨z_55, hz_55, hf⟩ := pLet_out hf
                refine gI (w' := (wL a0 a1 a2 a3 a4 a5 a6 a7 a8 a9 a10 a11 a12 a13 a14 a15 a16 m0 m1 m2 m3 m4 m5 m6 m7 m8 m9 m10 m11 m12 m13 b0 cI cL (z_52.2.1) (z_54.2) (z_52.2.2))) (va_runV (As := []) (rest := []) ⟨hx, hb, hml, hown, hts⟩ (ctX5_thrown l D cI m0 m1 m2 m3 m4 m5 m6 m7 m8 m9 m10 m11 m12 m13 (z_54.2) z_55 hz_55.symm H.size) (cwV 0 hts gL_law_X5_thrown rfl rfl rfl (by decide +kernel) ⟨Nat.le_of_ble_eq_true rfl, Nat.le_of_ble_eq_true rfl⟩) (gPreV (ci := 4) (C := RX5) (T := TX5) (N := 27) hP (hK.sub [0] rfl) hD [17, 18, 19, 20, 21, 22, 23, 24, 25, 26, 27, 28, 29, 30] (by decide) rfl 17 rfl rfl) rfl rfl hl.1 rfl (lv_room (Nat.le_of_ble_eq_true rfl)) dL_law_338 ⟨Nat.le_trans (m := 601024) (by omega) (Nat.le_of_ble_eq_true rfl), Nat.le_trans (m := 7293034) (by omega) (Nat.le_of_ble_eq_true rfl)⟩) hP hD hS hA [17, 18, 19, 20, 21, 22, 23, 24, 25, 26, 27, 28, 29, 30] [0, 1, 2, 3, 4, 5, 6, 7, 8, 9, 10, 11, 12, 13, 14, 15, 16, 31] [0, 1, 2, 3, 4, 5, 6, 7, 8, 9, 10, 11, 12, 13, 14, 15, 16, 18, 19, 20, 21, 22, 23, 24, 25, 26, 27, 28, 29, 30, 31, 17] rfl rfl (by decide) (by decide) rfl (by decide) (fun H locs hP hD hS => ?_)
                refine lv_iload hx hb dL_law_341 (lv_at hl 1 rfl) ?_
                refine lv_icmp_eq (tgt := 348) hx hb dL_law_343 (by decide) (fun c_56 => ?_) (fun c_56 => ?_)
                · replace hf := pI_t c_56 hf
                  refine lv_iload hx hb dL_law_348 (lv_at hl 1 rfl) ?_
                  refine lv_if_ne (tgt := 365) hx hb dL_law_350 (by decide) (fun c_57 => ?_) (fun c_57 => ?_)
                  · replace hf := pI_f c_57 hf
                    refine lv_goto (tgt := 597) hx hb dL_law_365 (by decide) ?_
                    exact turn _ _ _ H locs ls _ _ (by omega) (by omega) hf hP hD hS (lv_sub hl [2, 3, 4, 5, 6] rfl)
                  · replace hf := pI_t c_57 hf
                    refine lv_aload_n hx hb dL_law_353 rfl (lv_at hl 5 rfl) ?_
                    refine lv_iconst (v := 0) hx hb dL_law_354 (by decide) ?_
                    obtain ⟨h_59, hf⟩ := pIn_out hf
                    refine va_lald hx hb hK hP 31 1 rfl rfl h_59 dL_law_355 ?_
                    refine lv_iload hx hb dL_law_356 (lv_at hl 0 rfl) ?_
                    refine lv_i2l (v := (z_54.1).toInt64) hx hb dL_law_358 rfl ?_
                    refine W.lcmp hx hb dL_law_359 ?_
                    refine lv_if_eq (tgt := 365) hx hb dL_law_360 (by decide) (fun c_60 => ?_) (fun c_60 => ?_)
                    · replace hf := pI_t c_60 hf
                      refine lv_goto (tgt := 597) hx hb dL_law_365 (by decide) ?_
                      exact turn _ _ _ H locs ls _ _ (by omega) (by omega) hf hP hD hS (lv_sub hl [2, 3, 4, 5, 6] rfl)
                    · replace hf := pI_f c_60 hf
                      refine lv_iconst (v := 0) hx hb dL_law_363 (by decide) ?_
                      exact absurd (Option.some.inj hf) (by decide)
                · replace hf := pI_f c_56 hf
                  refine lv_iconst (v := 0) hx hb dL_law_346 (by decide) ?_
                  exact absurd (Option.some.inj hf) (by decide)
              · replace hf := pI_f c_62 hf
                by_cases c_74 : x_3 = 5
                · replace hf := pI_t c_74 hf
                  refine lv_tableIn (tgt := 368) (off := 329) hx hb dL_law_39 (by rw [c_74]; decide) (by rw [c_74]; decide) (by rw [c_74]; rfl) (by decide) ?_
                  refine lv_aload_n hx hb dL_law_368 rfl (lv_at hl 1 rfl) ?_
                  refine lv_aload_n hx hb dL_law_369 rfl (lv_at hl 0 rfl) ?_
                  refine lv_iload hx hb dL_law_370 (lv_at hl 4 rfl) ?_
                  refine lv_iconst (v := 1) hx hb dL_law_372 (by decide) ?_
                  refine lv_iadd hx hb dL_law_373 ?_
                  obtain ⟨h_63, hf⟩ := pIn_out hf
                  refine va_sld hx hb hX hbl hbA hS h_63 dL_law_374 ?_
                  refine lv_aload_n hx hb dL_law_375 rfl (lv_at hl 3 rfl) ?_
                  obtain ⟨z_64, hz_64, hf⟩ := pB_out hf
                  refine gW (w' := (wL a0 a1 a2 a3 a4 a5 a6 a7 a8 a9 a10 a11 a12 a13 a14 a15 a16 m0 m1 m2 m3 m4 m5 m6 m7 m8 m9 m10 m11 m12 m13 b0 cI cL (z_64.2.1) v (z_64.2.2))) (vx_runSW (hh := [(0, 9, 12, 13), (0, 9, 15, 29)]) (As := [.ref a0, .int (xs ((x4 + 1)).toNatClampNeg), .ref b0]) (rest := []) ⟨hx, hb, hml, hown, hts⟩ (ctL_request l htr D cI cL a0 a1 a2 a3 a4 a5 a6 a7 a8 a9 a10 a11 a12 a13 a14 a15 a16 b0 u (xs ((x4 + 1)).toNatClampNeg) gg z_64 hz_64 H.size) (vx_cwSW 3 hts gL_law_L_request rfl rfl rfl (by decide +kernel) ⟨Nat.le_of_ble_eq_true rfl, Nat.le_of_ble_eq_true rfl⟩) (gPreSX hXw hS hA hP hK hD [0, 1, 2, 3, 4, 5, 6, 7, 8, 9, 10, 11, 12, 13, 14, 15, 16, 31] (by decide) rfl) rfl rfl hl.1 rfl (lv_room (Nat.le_of_ble_eq_true rfl)) dL_law_376 ⟨Nat.le_trans (m := 601024) (by omega) (Nat.le_of_ble_eq_true rfl), Nat.le_trans (m := 7293034) (by omega) (Nat.le_of_ble_eq_true rfl)⟩) hP hD hS hA [0, 1, 2, 3, 4, 5, 6, 7, 8, 9, 10, 11, 12, 13, 14, 15, 16, 31] [17, 18, 19, 20, 21, 22, 23, 24, 25, 26, 27, 28, 29, 30] [14, 15, 16, 17, 18, 19, 20, 21, 22, 23, 24, 25, 26, 27, 28, 29, 30, 0, 1, 2, 3, 4, 5, 6, 7, 8, 9, 10, 11, 12, 13, 31] rfl rfl (by decide) (by decide) rfl (by decide) (fun H locs hP hD hS => ?_)
                  obtain ⟨cells1, ec⟩ : ∃ y, y = cells + 1 := ⟨_, rfl⟩
                  obtain ⟨slots1, es⟩ : ∃ y, y = slots + 6 := ⟨_, rfl⟩
                  rw [← ec, ← es]
                  replace hc : cells1 + nn ≤ 601024 := by omega
                  replace hs : slots1 + 6 * nn ≤ 7293034 := by omega
                  refine lv_istore (lv' := [(5, .int z_64.1), (0, .ref b), (1, .ref a0), (2, .ref m0), (3, .ref b0), (4, .int x4)]) hx hb dL_law_379 hl (by decide) rfl (fun ls hl => ?_)
                  refine lv_aload_n hx hb dL_law_381 rfl (lv_at hl 3 rfl) ?_
                  refine lv_aload_n hx hb dL_law_382 rfl (lv_at hl 1 rfl) ?_
                  refine lv_iload hx hb dL_law_383 (lv_at hl 5 rfl) ?_
                  refine lv_iconst (v := 1) hx hb dL_law_385 (by decide) ?_
                  refine lv_iadd hx hb dL_law_386 ?_
                  obtain ⟨h_65, hf⟩ := pIn_out hf
                  refine va_sld hx hb hX hbl hbA hS h_65 dL_law_387 ?_
                  obtain ⟨z_66, hz_66, hf⟩ := pB_out hf
                  refine gI (w' := (wL a0 a1 a2 a3 a4 a5 a6 a7 a8 a9 a10 a11 a12 a13 a14 a15 a16 m0 m1 m2 m3 m4 m5 m6 m7 m8 m9 m10 m11 m12 m13 b0 cI cL (z_64.2.1) (z_66.2) (z_64.2.2))) (va_runV (As := [.int (xs ((x4 + 1)).toNatClampNeg)]) (rest := []) ⟨hx, hb, hml, hown, hts⟩ (ctX5_request l D cI m0 m1 m2 m3 m4 m5 m6 m7 m8 m9 m10 m11 m12 m13 v (xs ((x4 + 1)).toNatClampNeg) z_66 hz_66 H.size) (cwV 1 hts gL_law_X5_request rfl rfl rfl (by decide +kernel) ⟨Nat.le_of_ble_eq_true rfl, Nat.le_of_ble_eq_true rfl⟩) (gPreV (ci := 4) (C := RX5) (T := TX5) (N := 27) hP (hK.sub [0] rfl) hD [17, 18, 19, 20, 21, 22, 23, 24, 25, 26, 27, 28, 29, 30] (by decide) rfl 17 rfl rfl) rfl rfl hl.1 rfl (lv_room (Nat.le_of_ble_eq_true rfl)) dL_law_388 ⟨Nat.le_trans (m := 601024) (by omega) (Nat.le_of_ble_eq_true rfl), Nat.le_trans (m := 7293034) (by omega) (Nat.le_of_ble_eq_true rfl)⟩) hP hD hS hA [17, 18, 19, 20, 21, 22, 23, 24, 25, 26, 27, 28, 29, 30] [0, 1, 2, 3, 4, 5, 6, 7, 8, 9, 10, 11, 12, 13, 14, 15, 16, 31] [0, 1, 2, 3, 4, 5, 6, 7, 8, 9, 10, 11, 12, 13, 14, 15, 16, 18, 19, 20, 21, 22, 23, 24, 25, 26, 27, 28, 29, 30, 31, 17] rfl rfl (by decide) (by decide) rfl (by decide) (fun H locs hP hD hS => ?_)
                  refine lv_istore (lv' := [(6, .int z_66.1), (5, .int z_64.1), (0, .ref b), (1, .ref a0), (2, .ref m0), (3, .ref b0), (4, .int x4)]) hx hb dL_law_391 hl (by decide) rfl (fun ls hl => ?_)
                  refine lv_aload_n hx hb dL_law_393 rfl (lv_at hl 4 rfl) ?_
                  obtain ⟨z_67, hz_67, hf⟩ := pLet_out hf
                  refine gI (w' := (wL a0 a1 a2 a3 a4 a5 a6 a7 a8 a9 a10 a11 a12 a13 a14 a15 a16 m0 m1 m2 m3 m4 m5 m6 m7 m8 m9 m10 m11 m12 m13 b0 cI cL (z_64.2.1) (z_66.2) (z_64.2.2))) (va_runV (As := []) (rest := []) ⟨hx, hb, hml, hown, hts⟩ (ctX5_thrown l D cI m0 m1 m2 m3 m4 m5 m6 m7 m8 m9 m10 m11 m12 m13 (z_66.2) z_67 hz_67.symm H.size) (cwV 0 hts gL_law_X5_thrown rfl rfl rfl (by decide +kernel) ⟨Nat.le_of_ble_eq_true rfl, Nat.le_of_ble_eq_true rfl⟩) (gPreV (ci := 4) (C := RX5) (T := TX5) (N := 27) hP (hK.sub [0] rfl) hD [17, 18, 19, 20, 21, 22, 23, 24, 25, 26, 27, 28, 29, 30] (by decide) rfl 17 rfl rfl) rfl rfl hl.1 rfl (lv_room (Nat.le_of_ble_eq_true rfl)) dL_law_394 ⟨Nat.le_trans (m := 601024) (by omega) (Nat.le_of_ble_eq_true rfl), Nat.le_trans (m := 7293034) (by omega) (Nat.le_of_ble_eq_true rfl)⟩) hP hD hS hA [17, 18, 19, 20, 21, 22, 23, 24, 25, 26, 27, 28, 29, 30] [0, 1, 2, 3, 4, 5, 6, 7, 8, 9, 10, 11, 12, 13, 14, 15, 16, 31] [0, 1, 2, 3, 4, 5, 6, 7, 8, 9, 10, 11, 12, 13, 14, 15, 16, 18, 19, 20, 21, 22, 23, 24, 25, 26, 27, 28, 29, 30, 31, 17] rfl rfl (by decide) (by decide) rfl (by decide) (fun H locs hP hD hS => ?_)
                  refine lv_iload hx hb dL_law_397 (lv_at hl 1 rfl) ?_
                  refine lv_icmp_eq (tgt := 404) hx hb dL_law_399 (by decide) (fun c_68 => ?_) (fun c_68 => ?_)
                  · replace hf := pI_t c_68 hf
                    refine lv_iload hx hb dL_law_404 (lv_at hl 1 rfl) ?_
                    refine lv_if_ne (tgt := 421) hx hb dL_law_406 (by decide) (fun c_69 => ?_) (fun c_69 => ?_)
                    · replace hf := pI_f c_69 hf
                      refine lv_goto (tgt := 597) hx hb dL_law_421 (by decide) ?_
                      exact turn _ _ _ H locs ls _ _ (by omega) (by omega) hf hP hD hS (lv_sub hl [2, 3, 4, 5, 6] rfl)
                    · replace hf := pI_t c_69 hf
                      refine lv_aload_n hx hb dL_law_409 rfl (lv_at hl 5 rfl) ?_
                      refine lv_iconst (v := 0) hx hb dL_law_410 (by decide) ?_
                      obtain ⟨h_71, hf⟩ := pIn_out hf
                      refine va_lald hx hb hK hP 31 1 rfl rfl h_71 dL_law_411 ?_
                      refine lv_iload hx hb dL_law_412 (lv_at hl 0 rfl) ?_
                      refine lv_i2l (v := (z_66.1).toInt64) hx hb dL_law_414 rfl ?_
                      refine W.lcmp hx hb dL_law_415 ?_
                      refine lv_if_eq (tgt := 421) hx hb dL_law_416 (by decide) (fun c_72 => ?_) (fun c_72 => ?_)
                      · replace hf := pI_t c_72 hf
                        refine lv_goto (tgt := 597) hx hb dL_law_421 (by decide) ?_
                        exact turn _ _ _ H locs ls _ _ (by omega) (by omega) hf hP hD hS (lv_sub hl [2, 3, 4, 5, 6] rfl)
                      · replace hf := pI_f c_72 hf
                        refine lv_iconst (v := 0) hx hb dL_law_419 (by decide) ?_
                        exact absurd (Option.some.inj hf) (by decide)
                  · replace hf := pI_f c_68 hf
                    refine lv_iconst (v := 0) hx hb dL_law_402 (by decide) ?_
                    exact absurd (Option.some.inj hf) (by decide)
                · replace hf := pI_f c_74 hf
                  by_cases c_82 : x_3 = 6
                  · replace hf := pI_t c_82 hf
                    refine lv_tableIn (tgt := 424) (off := 385) hx hb dL_law_39 (by rw [c_82]; decide) (by rw [c_82]; decide) (by rw [c_82]; rfl) (by decide) ?_
                    refine lv_aload_n hx hb dL_law_424 rfl (lv_at hl 1 rfl) ?_
                    refine lv_aload_n hx hb dL_law_425 rfl (lv_at hl 0 rfl) ?_
                    refine lv_iload hx hb dL_law_426 (lv_at hl 4 rfl) ?_
                    refine lv_iconst (v := 1) hx hb dL_law_428 (by decide) ?_
                    refine lv_iadd hx hb dL_law_429 ?_
                    obtain ⟨h_75, hf⟩ := pIn_out hf
                    refine va_sld hx hb hX hbl hbA hS h_75 dL_law_430 ?_
                    obtain ⟨z_76, hz_76, hf⟩ := pB_out hf
                    refine gW (w' := (wL a0 a1 a2 a3 a4 a5 a6 a7 a8 a9 a10 a11 a12 a13 a14 a15 a16 m0 m1 m2 m3 m4 m5 m6 m7 m8 m9 m10 m11 m12 m13 b0 cI cL (z_76.2) v gg)) (vx_runSW (hh := [(0, 5, 8, 13)]) (As := [.ref a0, .int (xs ((x4 + 1)).toNatClampNeg)]) (rest := []) ⟨hx, hb, hml, hown, hts⟩ (ctL_room l htr D cI a0 a1 a2 a3 a4 a5 a6 a7 a8 a9 a10 a11 a12 a13 a14 a15 a16 u (xs ((x4 + 1)).toNatClampNeg) z_76 hz_76 H.size) (vx_cwSW 2 hts gL_law_L_room rfl rfl rfl (by decide +kernel) ⟨Nat.le_of_ble_eq_true rfl, Nat.le_of_ble_eq_true rfl⟩) (gPreSX hXw hS hA hP (hK.sub [0] rfl) hD [0, 1, 2, 3, 4, 5, 6, 7, 8, 9, 10, 11, 12, 13, 14, 15, 16] (by decide) rfl) rfl rfl hl.1 rfl (lv_room (Nat.le_of_ble_eq_true rfl)) dL_law_431 ⟨Nat.le_trans (m := 601024) (by omega) (Nat.le_of_ble_eq_true rfl), Nat.le_trans (m := 7293034) (by omega) (Nat.le_of_ble_eq_true rfl)⟩) hP hD hS hA [0, 1, 2, 3, 4, 5, 6, 7, 8, 9, 10, 11, 12, 13, 14, 15, 16] [17, 18, 19, 20, 21, 22, 23, 24, 25, 26, 27, 28, 29, 30, 31] [15, 16, 17, 18, 19, 20, 21, 22, 23, 24, 25, 26, 27, 28, 29, 30, 31, 0, 1, 2, 3, 4, 5, 6, 7, 8, 9, 10, 11, 12, 13, 14] rfl rfl (by decide) (by decide) rfl (by decide) (fun H locs hP hD hS => ?_)
                    obtain ⟨cells1, ec⟩ : ∃ y, y = cells + 1 := ⟨_, rfl⟩
                    obtain ⟨slots1, es⟩ : ∃ y, y = slots + 6 := ⟨_, rfl⟩
                    rw [← ec, ← es]
                    replace hc : cells1 + nn ≤ 601024 := by omega
                    replace hs : slots1 + 6 * nn ≤ 7293034 := by omega
                    refine lv_istore (lv' := [(5, .int z_76.1), (0, .ref b), (1, .ref a0), (2, .ref m0), (3, .ref b0), (4, .int x4)]) hx hb dL_law_434 hl (by decide) rfl (fun ls hl => ?_)
                    refine lv_aload_n hx hb dL_law_436 rfl (lv_at hl 3 rfl) ?_
                    refine lv_aload_n hx hb dL_law_437 rfl (lv_at hl 1 rfl) ?_
                    refine lv_iload hx hb dL_law_438 (lv_at hl 5 rfl) ?_
                    refine lv_iconst (v := 1) hx hb dL_law_440 (by decide) ?_
                    refine lv_iadd hx hb dL_law_441 ?_
                    obtain ⟨h_77, hf⟩ := pIn_out hf
                    refine va_sld hx hb hX hbl hbA hS h_77 dL_law_442 ?_
                    obtain ⟨z_78, hz_78, hf⟩ := pB_out hf
                    refine gV (w' := (wL a0 a1 a2 a3 a4 a5 a6 a7 a8 a9 a10 a11 a12 a13 a14 a15 a16 m0 m1 m2 m3 m4 m5 m6 m7 m8 m9 m10 m11 m12 m13 b0 cI cL (z_76.2) z_78 gg)) (va_runV (As := [.int (xs ((x4 + 1)).toNatClampNeg)]) (rest := []) ⟨hx, hb, hml, hown, hts⟩ (ctX5_room l D cI m0 m1 m2 m3 m4 m5 m6 m7 m8 m9 m10 m11 m12 m13 v (xs ((x4 + 1)).toNatClampNeg) z_78 hz_78 H.size) (cwV 1 hts gL_law_X5_room rfl rfl rfl (by decide +kernel) ⟨Nat.le_of_ble_eq_true rfl, Nat.le_of_ble_eq_true rfl⟩) (gPreV (ci := 4) (C := RX5) (T := TX5) (N := 27) hP (hK.sub [0] rfl) hD [17, 18, 19, 20, 21, 22, 23, 24, 25, 26, 27, 28, 29, 30] (by decide) rfl 17 rfl rfl) rfl rfl hl.1 rfl (lv_room (Nat.le_of_ble_eq_true rfl)) dL_law_443 ⟨Nat.le_trans (m := 601024) (by omega) (Nat.le_of_ble_eq_true rfl), Nat.le_trans (m := 7293034) (by omega) (Nat.le_of_ble_eq_true rfl)⟩) hP hD hS hA [17, 18, 19, 20, 21, 22, 23, 24, 25, 26, 27, 28, 29, 30] [0, 1, 2, 3, 4, 5, 6, 7, 8, 9, 10, 11, 12, 13, 14, 15, 16, 31] [0, 1, 2, 3, 4, 5, 6, 7, 8, 9, 10, 11, 12, 13, 14, 15, 16, 18, 19, 20, 21, 22, 23, 24, 25, 26, 27, 28, 29, 30, 31, 17] rfl rfl (by decide) (by decide) rfl (by decide) (fun H locs hP hD hS => ?_)
                    refine lv_aload_n hx hb dL_law_446 rfl (lv_at hl 3 rfl) ?_
                    obtain ⟨z_79, hz_79, hf⟩ := pLet_out hf
                    refine gI (w' := (wL a0 a1 a2 a3 a4 a5 a6 a7 a8 a9 a10 a11 a12 a13 a14 a15 a16 m0 m1 m2 m3 m4 m5 m6 m7 m8 m9 m10 m11 m12 m13 b0 cI cL (z_76.2) z_78 gg)) (va_runV (As := []) (rest := []) ⟨hx, hb, hml, hown, hts⟩ (ctX5_thrown l D cI m0 m1 m2 m3 m4 m5 m6 m7 m8 m9 m10 m11 m12 m13 z_78 z_79 hz_79.symm H.size) (cwV 0 hts gL_law_X5_thrown rfl rfl rfl (by decide +kernel) ⟨Nat.le_of_ble_eq_true rfl, Nat.le_of_ble_eq_true rfl⟩) (gPreV (ci := 4) (C := RX5) (T := TX5) (N := 27) hP (hK.sub [0] rfl) hD [17, 18, 19, 20, 21, 22, 23, 24, 25, 26, 27, 28, 29, 30] (by decide) rfl 17 rfl rfl) rfl rfl hl.1 rfl (lv_room (Nat.le_of_ble_eq_true rfl)) dL_law_447 ⟨Nat.le_trans (m := 601024) (by omega) (Nat.le_of_ble_eq_true rfl), Nat.le_trans (m := 7293034) (by omega) (Nat.le_of_ble_eq_true rfl)⟩) hP hD hS hA [17, 18, 19, 20, 21, 22, 23, 24, 25, 26, 27, 28, 29, 30] [0, 1, 2, 3, 4, 5, 6, 7, 8, 9, 10, 11, 12, 13, 14, 15, 16, 31] [0, 1, 2, 3, 4, 5, 6, 7, 8, 9, 10, 11, 12, 13, 14, 15, 16, 18, 19, 20, 21, 22, 23, 24, 25, 26, 27, 28, 29, 30, 31, 17] rfl rfl (by decide) (by decide) rfl (by decide) (fun H locs hP hD hS => ?_)
                    refine lv_iload hx hb dL_law_450 (lv_at hl 0 rfl) ?_
                    refine lv_icmp_eq (tgt := 457) hx hb dL_law_452 (by decide) (fun c_80 => ?_) (fun c_80 => ?_)
                    · replace hf := pI_t c_80 hf
                      refine lv_goto (tgt := 597) hx hb dL_law_457 (by decide) ?_
                      exact turn _ _ _ H locs ls _ _ (by omega) (by omega) hf hP hD hS (lv_sub hl [1, 2, 3, 4, 5] rfl)
                    · replace hf := pI_f c_80 hf
                      refine lv_iconst (v := 0) hx hb dL_law_455 (by decide) ?_
                      exact absurd (Option.some.inj hf) (by decide)
                  · replace hf := pI_f c_82 hf
                    by_cases c_94 : x_3 = 7
                    · replace hf := pI_t c_94 hf
                      refine lv_tableIn (tgt := 460) (off := 421) hx hb dL_law_39 (by rw [c_94]; decide) (by rw [c_94]; decide) (by rw [c_94]; rfl) (by decide) ?_
                      refine lv_aload_n hx hb dL_law_460 rfl (lv_at hl 1 rfl) ?_
                      refine lv_aload_n hx hb dL_law_461 rfl (lv_at hl 0 rfl) ?_
                      refine lv_iload hx hb dL_law_462 (lv_at hl 4 rfl) ?_
                      refine lv_iconst (v := 1) hx hb dL_law_464 (by decide) ?_
                      refine lv_iadd hx hb dL_law_465 ?_
                      obtain ⟨h_83, hf⟩ := pIn_out hf
                      refine va_sld hx hb hX hbl hbA hS h_83 dL_law_466 ?_
                      refine lv_aload_n hx hb dL_law_467 rfl (lv_at hl 3 rfl) ?_
                      obtain ⟨z_84, hz_84, hf⟩ := pB_out hf
                      refine gW (w' := (wL a0 a1 a2 a3 a4 a5 a6 a7 a8 a9 a10 a11 a12 a13 a14 a15 a16 m0 m1 m2 m3 m4 m5 m6 m7 m8 m9 m10 m11 m12 m13 b0 cI cL (z_84.2.1) v (z_84.2.2))) (vx_runSW (hh := [(0, 9, 12, 13)]) (As := [.ref a0, .int (xs ((x4 + 1)).toNatClampNeg), .ref b0]) (rest := []) ⟨hx, hb, hml, hown, hts⟩ (ctL_run l htr D cI cL a0 a1 a2 a3 a4 a5 a6 a7 a8 a9 a10 a11 a12 a13 a14 a15 a16 b0 u (xs ((x4 + 1)).toNatClampNeg) gg z_84 hz_84 H.size) (vx_cwSW 3 hts gL_law_L_run rfl rfl rfl (by decide +kernel) ⟨Nat.le_of_ble_eq_true rfl, Nat.le_of_ble_eq_true rfl⟩) (gPreSX hXw hS hA hP hK hD [0, 1, 2, 3, 4, 5, 6, 7, 8, 9, 10, 11, 12, 13, 14, 15, 16, 31] (by decide) rfl) rfl rfl hl.1 rfl (lv_room (Nat.le_of_ble_eq_true rfl)) dL_law_468 ⟨Nat.le_trans (m := 601024) (by omega) (Nat.le_of_ble_eq_true rfl), Nat.le_trans (m := 7293034) (by omega) (Nat.le_of_ble_eq_true rfl)⟩) hP hD hS hA [0, 1, 2, 3, 4, 5, 6, 7, 8, 9, 10, 11, 12, 13, 14, 15, 16, 31] [17, 18, 19, 20, 21, 22, 23, 24, 25, 26, 27, 28, 29, 30] [14, 15, 16, 17, 18, 19, 20, 21, 22, 23, 24, 25, 26, 27, 28, 29, 30, 0, 1, 2, 3, 4, 5, 6, 7, 8, 9, 10, 11, 12, 13, 31] rfl rfl (by decide) (by decide) rfl (by decide) (fun H locs hP hD hS => ?_)
                      obtain ⟨cells1, ec⟩ : ∃ y, y = cells + 1 := ⟨_, rfl⟩
                      obtain ⟨slots1, es⟩ : ∃ y, y = slots + 6 := ⟨_, rfl⟩
                      rw [← ec, ← es]
                      replace hc : cells1 + nn ≤ 601024 := by omega
                      replace hs : slots1 + 6 * nn ≤ 7293034 := by omega
                      refine lv_istore (lv' := [(5, .int z_84.1), (0, .ref b), (1, .ref a0), (2, .ref m0), (3, .ref b0), (4, .int x4)]) hx hb dL_law_471 hl (by decide) rfl (fun ls hl => ?_)
                      refine lv_aload_n hx hb dL_law_473 rfl (lv_at hl 3 rfl) ?_
                      refine lv_aload_n hx hb dL_law_474 rfl (lv_at hl 1 rfl) ?_
                      refine lv_iload hx hb dL_law_475 (lv_at hl 5 rfl) ?_
                      refine lv_iconst (v := 1) hx hb dL_law_477 (by decide) ?_
                      refine lv_iadd hx hb dL_law_478 ?_
                      obtain ⟨h_85, hf⟩ := pIn_out hf
                      refine va_sld hx hb hX hbl hbA hS h_85 dL_law_479 ?_
                      obtain ⟨z_86, hz_86, hf⟩ := pB_out hf
                      refine gI (w' := (wL a0 a1 a2 a3 a4 a5 a6 a7 a8 a9 a10 a11 a12 a13 a14 a15 a16 m0 m1 m2 m3 m4 m5 m6 m7 m8 m9 m10 m11 m12 m13 b0 cI cL (z_84.2.1) (z_86.2) (z_84.2.2))) (va_runV (As := [.int (xs ((x4 + 1)).toNatClampNeg)]) (rest := []) ⟨hx, hb, hml, hown, hts⟩ (ctX5_run l D cI m0 m1 m2 m3 m4 m5 m6 m7 m8 m9 m10 m11 m12 m13 v (xs ((x4 + 1)).toNatClampNeg) z_86 hz_86 H.size) (cwV 1 hts gL_law_X5_run rfl rfl rfl (by decide +kernel) ⟨Nat.le_of_ble_eq_true rfl, Nat.le_of_ble_eq_true rfl⟩) (gPreV (ci := 4) (C := RX5) (T := TX5) (N := 27) hP (hK.sub [0] rfl) hD [17, 18, 19, 20, 21, 22, 23, 24, 25, 26, 27, 28, 29, 30] (by decide) rfl 17 rfl rfl) rfl rfl hl.1 rfl (lv_room (Nat.le_of_ble_eq_true rfl)) dL_law_480 ⟨Nat.le_trans (m := 601024) (by omega) (Nat.le_of_ble_eq_true rfl), Nat.le_trans (m := 7293034) (by omega) (Nat.le_of_ble_eq_true rfl)⟩) hP hD hS hA [17, 18, 19, 20, 21, 22, 23, 24, 25, 26, 27, 28, 29, 30] [0, 1, 2, 3, 4, 5, 6, 7, 8, 9, 10, 11, 12, 13, 14, 15, 16, 31] [0, 1, 2, 3, 4, 5, 6, 7, 8, 9, 10, 11, 12, 13, 14, 15, 16, 18, 19, 20, 21, 22, 23, 24, 25, 26, 27, 28, 29, 30, 31, 17] rfl rfl (by decide) (by decide) rfl (by decide) (fun H locs hP hD hS => ?_)
                      refine lv_istore (lv' := [(6, .int z_86.1), (5, .int z_84.1), (0, .ref b), (1, .ref a0), (2, .ref m0), (3, .ref b0), (4, .int x4)]) hx hb dL_law_483 hl (by decide) rfl (fun ls hl => ?_)
                      refine lv_aload_n hx hb dL_law_485 rfl (lv_at hl 4 rfl) ?_
                      obtain ⟨z_87, hz_87, hf⟩ := pLet_out hf
                      refine gI (w' := (wL a0 a1 a2 a3 a4 a5 a6 a7 a8 a9 a10 a11 a12 a13 a14 a15 a16 m0 m1 m2 m3 m4 m5 m6 m7 m8 m9 m10 m11 m12 m13 b0 cI cL (z_84.2.1) (z_86.2) (z_84.2.2))) (va_runV (As := []) (rest := []) ⟨hx, hb, hml, hown, hts⟩ (ctX5_thrown l D cI m0 m1 m2 m3 m4 m5 m6 m7 m8 m9 m10 m11 m12 m13 (z_86.2) z_87 hz_87.symm H.size) (cwV 0 hts gL_law_X5_thrown rfl rfl rfl (by decide +kernel) ⟨Nat.le_of_ble_eq_true rfl, Nat.le_of_ble_eq_true rfl⟩) (gPreV (ci := 4) (C := RX5) (T := TX5) (N := 27) hP (hK.sub [0] rfl) hD [17, 18, 19, 20, 21, 22, 23, 24, 25, 26, 27, 28, 29, 30] (by decide) rfl 17 rfl rfl) rfl rfl hl.1 rfl (lv_room (Nat.le_of_ble_eq_true rfl)) dL_law_486 ⟨Nat.le_trans (m := 601024) (by omega) (Nat.le_of_ble_eq_true rfl), Nat.le_trans (m := 7293034) (by omega) (Nat.le_of_ble_eq_true rfl)⟩) hP hD hS hA [17, 18, 19, 20, 21, 22, 23, 24, 25, 26, 27, 28, 29, 30] [0, 1, 2, 3, 4, 5, 6, 7, 8, 9, 10, 11, 12, 13, 14, 15, 16, 31] [0, 1, 2, 3, 4, 5, 6, 7, 8, 9, 10, 11, 12, 13, 14, 15, 16, 18, 19, 20, 21, 22, 23, 24, 25, 26, 27, 28, 29, 30, 31, 17] rfl rfl (by decide) (by decide) rfl (by decide) (fun H locs hP hD hS => ?_)
                      refine lv_iload hx hb dL_law_489 (lv_at hl 1 rfl) ?_
                      refine lv_icmp_eq (tgt := 496) hx hb dL_law_491 (by decide) (fun c_88 => ?_) (fun c_88 => ?_)
                      · replace hf := pI_t c_88 hf
                        refine lv_iload hx hb dL_law_496 (lv_at hl 1 rfl) ?_
                        refine lv_if_ne (tgt := 513) hx hb dL_law_498 (by decide) (fun c_89 => ?_) (fun c_89 => ?_)
                        · replace hf := pI_f c_89 hf
                          refine lv_goto (tgt := 597) hx hb dL_law_513 (by decide) ?_
                          exact turn _ _ _ H locs ls _ _ (by omega) (by omega) hf hP hD hS (lv_sub hl [2, 3, 4, 5, 6] rfl)
                        · replace hf := pI_t c_89 hf
                          refine lv_aload_n hx hb dL_law_501 rfl (lv_at hl 5 rfl) ?_
                          refine lv_iconst (v := 0) hx hb dL_law_502 (by decide) ?_
                          obtain ⟨h_91, hf⟩ := pIn_out hf
                          refine va_lald hx hb hK hP 31 1 rfl rfl h_91 dL_law_503 ?_
                          refine lv_iload hx hb dL_law_504 (lv_at hl 0 rfl) ?_
                          refine lv_i2l (v := (z_86.1).toInt64) hx hb dL_law_506 rfl ?_
                          refine W.lcmp hx hb dL_law_507 ?_
                          refine lv_if_eq (tgt := 513) hx hb dL_law_508 (by decide) (fun c_92 => ?_) (fun c_92 => ?_)
                          · replace hf := pI_t c_92 hf
                            refine lv_goto (tgt := 597) hx hb dL_law_513 (by decide) ?_
                            exact turn _ _ _ H locs ls _ _ (by omega) (by omega) hf hP hD hS (lv_sub hl [2, 3, 4, 5, 6] rfl)
                          · replace hf := pI_f c_92 hf
                            refine lv_iconst (v := 0) hx hb dL_law_511 (by decide) ?_
                            exact absurd (Option.some.inj hf) (by decide)
                      · replace hf := pI_f c_88 hf
                        refine lv_iconst (v := 0) hx hb dL_law_494 (by decide) ?_
                        exact absurd (Option.some.inj hf) (by decide)
                    · replace hf := pI_f c_94 hf
                      by_cases c_101 : x_3 = 8
                      · replace hf := pI_t c_101 hf
                        refine lv_tableIn (tgt := 516) (off := 477) hx hb dL_law_39 (by rw [c_101]; decide) (by rw [c_101]; decide) (by rw [c_101]; rfl) (by decide) ?_
                        refine lv_aload_n hx hb dL_law_516 rfl (lv_at hl 1 rfl) ?_
                        refine lv_aload_n hx hb dL_law_517 rfl (lv_at hl 0 rfl) ?_
                        refine lv_iload hx hb dL_law_518 (lv_at hl 4 rfl) ?_
                        refine lv_iconst (v := 1) hx hb dL_law_520 (by decide) ?_
                        refine lv_iadd hx hb dL_law_521 ?_
                        obtain ⟨h_95, hf⟩ := pIn_out hf
                        refine va_sld hx hb hX hbl hbA hS h_95 dL_law_522 ?_
                        obtain ⟨z_96, hz_96, hf⟩ := pB_out hf
                        refine gI (w' := (wL a0 a1 a2 a3 a4 a5 a6 a7 a8 a9 a10 a11 a12 a13 a14 a15 a16 m0 m1 m2 m3 m4 m5 m6 m7 m8 m9 m10 m11 m12 m13 b0 cI cL u v gg)) (va_runV (As := [.int (xs ((x4 + 1)).toNatClampNeg)]) (rest := []) ⟨hx, hb, hml, hown, hts⟩ (ctX4_output l D cI a0 a1 a2 a3 a4 a5 a6 a7 a8 a9 a10 a11 a12 a13 a14 a15 a16 u (xs ((x4 + 1)).toNatClampNeg) z_96 hz_96 H.size) (cwV 1 hts gL_law_X4_output rfl rfl rfl (by decide +kernel) ⟨Nat.le_of_ble_eq_true rfl, Nat.le_of_ble_eq_true rfl⟩) (gPreV (ci := 3) (C := RX4) (T := TX4) (N := 11) hP (hK.sub [0] rfl) hD [0, 1, 2, 3, 4, 5, 6, 7, 8, 9, 10, 11, 12, 13, 14, 15, 16] (by decide) rfl 0 rfl rfl) rfl rfl hl.1 rfl (lv_room (Nat.le_of_ble_eq_true rfl)) dL_law_523 ⟨Nat.le_trans (m := 601024) (by omega) (Nat.le_of_ble_eq_true rfl), Nat.le_trans (m := 7293034) (by omega) (Nat.le_of_ble_eq_true rfl)⟩) hP hD hS hA [0, 1, 2, 3, 4, 5, 6, 7, 8, 9, 10, 11, 12, 13, 14, 15, 16] [17, 18, 19, 20, 21, 22, 23, 24, 25, 26, 27, 28, 29, 30, 31] [15, 16, 17, 18, 19, 20, 21, 22, 23, 24, 25, 26, 27, 28, 29, 30, 31, 0, 1, 2, 3, 4, 5, 6, 7, 8, 9, 10, 11, 12, 13, 14] rfl rfl (by decide) (by decide) rfl (by decide) (fun H locs hP hD hS => ?_)
                        refine lv_aload_n hx hb dL_law_526 rfl (lv_at hl 2 rfl) ?_
                        refine lv_aload_n hx hb dL_law_527 rfl (lv_at hl 0 rfl) ?_
                        refine lv_iload hx hb dL_law_528 (lv_at hl 4 rfl) ?_
                        refine lv_iconst (v := 1) hx hb dL_law_530 (by decide) ?_
                        refine lv_iadd hx hb dL_law_531 ?_
                        obtain ⟨h_97, hf⟩ := pIn_out hf
                        refine va_sld hx hb hX hbl hbA hS h_97 dL_law_532 ?_
                        obtain ⟨z_98, hz_98, hf⟩ := pB_out hf
                        refine gI (w' := (wL a0 a1 a2 a3 a4 a5 a6 a7 a8 a9 a10 a11 a12 a13 a14 a15 a16 m0 m1 m2 m3 m4 m5 m6 m7 m8 m9 m10 m11 m12 m13 b0 cI cL u (z_98.2) gg)) (va_runV (As := [.int (xs ((x4 + 1)).toNatClampNeg)]) (rest := [.int z_96]) ⟨hx, hb, hml, hown, hts⟩ (ctX5_output l D cI m0 m1 m2 m3 m4 m5 m6 m7 m8 m9 m10 m11 m12 m13 v (xs ((x4 + 1)).toNatClampNeg) z_98 hz_98 H.size) (cwV 1 hts gL_law_X5_output rfl rfl rfl (by decide +kernel) ⟨Nat.le_of_ble_eq_true rfl, Nat.le_of_ble_eq_true rfl⟩) (gPreV (ci := 4) (C := RX5) (T := TX5) (N := 27) hP (hK.sub [0] rfl) hD [17, 18, 19, 20, 21, 22, 23, 24, 25, 26, 27, 28, 29, 30] (by decide) rfl 17 rfl rfl) rfl rfl hl.1 rfl (lv_room (Nat.le_of_ble_eq_true rfl)) dL_law_533 ⟨Nat.le_trans (m := 601024) (by omega) (Nat.le_of_ble_eq_true rfl), Nat.le_trans (m := 7293034) (by omega) (Nat.le_of_ble_eq_true rfl)⟩) hP hD hS hA [17, 18, 19, 20, 21, 22, 23, 24, 25, 26, 27, 28, 29, 30] [0, 1, 2, 3, 4, 5, 6, 7, 8, 9, 10, 11, 12, 13, 14, 15, 16, 31] [0, 1, 2, 3, 4, 5, 6, 7, 8, 9, 10, 11, 12, 13, 14, 15, 16, 18, 19, 20, 21, 22, 23, 24, 25, 26, 27, 28, 29, 30, 31, 17] rfl rfl (by decide) (by decide) rfl (by decide) (fun H locs hP hD hS => ?_)
                        refine lv_icmp_eq (tgt := 597) hx hb dL_law_536 (by decide) (fun c_99 => ?_) (fun c_99 => ?_)
                        · replace hf := pI_t c_99 hf
                          exact turn _ _ _ H locs ls _ _ (by omega) (by omega) hf hP hD hS (lv_sub hl [0, 1, 2, 3, 4] rfl)
                        · replace hf := pI_f c_99 hf
                          refine lv_iconst (v := 0) hx hb dL_law_539 (by decide) ?_
                          exact absurd (Option.some.inj hf) (by decide)
                      · replace hf := pI_f c_101 hf
                        by_cases c_113 : x_3 = 9
                        · replace hf := pI_t c_113 hf
                          refine lv_tableIn (tgt := 541) (off := 502) hx hb dL_law_39 (by rw [c_113]; decide) (by rw [c_113]; decide) (by rw [c_113]; rfl) (by decide) ?_
                          refine lv_aload_n hx hb dL_law_541 rfl (lv_at hl 1 rfl) ?_
                          refine lv_aload_n hx hb dL_law_542 rfl (lv_at hl 0 rfl) ?_
                          refine lv_iload hx hb dL_law_543 (lv_at hl 4 rfl) ?_
                          refine lv_iconst (v := 1) hx hb dL_law_545 (by decide) ?_
                          refine lv_iadd hx hb dL_law_546 ?_
                          obtain ⟨h_102, hf⟩ := pIn_out hf
                          refine va_sld hx hb hX hbl hbA hS h_102 dL_law_547 ?_
                          refine lv_aload_n hx hb dL_law_548 rfl (lv_at hl 3 rfl) ?_
                          obtain ⟨z_103, hz_103, hf⟩ := pB_out hf
                          refine gW (w' := (wL a0 a1 a2 a3 a4 a5 a6 a7 a8 a9 a10 a11 a12 a13 a14 a15 a16 m0 m1 m2 m3 m4 m5 m6 m7 m8 m9 m10 m11 m12 m13 b0 cI cL (z_103.2.1) v (z_103.2.2))) (vx_runSW (hh := [(0, 9, 12, 13)]) (As := [.ref a0, .int (xs ((x4 + 1)).toNatClampNeg), .ref b0]) (rest := []) ⟨hx, hb, hml, hown, hts⟩ (ctL_count l htr D cI cL a0 a1 a2 a3 a4 a5 a6 a7 a8 a9 a10 a11 a12 a13 a14 a15 a16 b0 u (xs ((x4 + 1)).toNatClampNeg) gg z_103 hz_103 H.size) (vx_cwSW 3 hts gL_law_L_count rfl rfl rfl (by decide +kernel) ⟨Nat.le_of_ble_eq_true rfl, Nat.le_of_ble_eq_true rfl⟩) (gPreSX hXw hS hA hP hK hD [0, 1, 2, 3, 4, 5, 6, 7, 8, 9, 10, 11, 12, 13, 14, 15, 16, 31] (by decide) rfl) rfl rfl hl.1 rfl (lv_room (Nat.le_of_ble_eq_true rfl)) dL_law_549 ⟨Nat.le_trans (m := 601024) (by omega) (Nat.le_of_ble_eq_true rfl), Nat.le_trans (m := 7293034) (by omega) (Nat.le_of_ble_eq_true rfl)⟩) hP hD hS hA [0, 1, 2, 3, 4, 5, 6, 7, 8, 9, 10, 11, 12, 13, 14, 15, 16, 31] [17, 18, 19, 20, 21, 22, 23, 24, 25, 26, 27, 28, 29, 30] [14, 15, 16, 17, 18, 19, 20, 21, 22, 23, 24, 25, 26, 27, 28, 29, 30, 0, 1, 2, 3, 4, 5, 6, 7, 8, 9, 10, 11, 12, 13, 31] rfl rfl (by decide) (by decide) rfl (by decide) (fun H locs hP hD hS => ?_)
                          obtain ⟨cells1, ec⟩ : ∃ y, y = cells + 1 := ⟨_, rfl⟩
                          obtain ⟨slots1, es⟩ : ∃ y, y = slots + 6 := ⟨_, rfl⟩
                          rw [← ec, ← es]
                          replace hc : cells1 + nn ≤ 601024 := by omega
                          replace hs : slots1 + 6 * nn ≤ 7293034 := by omega
                          refine lv_istore (lv' := [(5, .int z_103.1), (0, .ref b), (1, .ref a0), (2, .ref m0), (3, .ref b0), (4, .int x4)]) hx hb dL_law_552 hl (by decide) rfl (fun ls hl => ?_)
                          refine lv_aload_n hx hb dL_law_554 rfl (lv_at hl 3 rfl) ?_
                          refine lv_aload_n hx hb dL_law_555 rfl (lv_at hl 1 rfl) ?_
                          refine lv_iload hx hb dL_law_556 (lv_at hl 5 rfl) ?_
                          refine lv_iconst (v := 1) hx hb dL_law_558 (by decide) ?_
                          refine lv_iadd hx hb dL_law_559 ?_
                          obtain ⟨h_104, hf⟩ := pIn_out hf
                          refine va_sld hx hb hX hbl hbA hS h_104 dL_law_560 ?_
                          obtain ⟨z_105, hz_105, hf⟩ := pB_out hf
                          refine gI (w' := (wL a0 a1 a2 a3 a4 a5 a6 a7 a8 a9 a10 a11 a12 a13 a14 a15 a16 m0 m1 m2 m3 m4 m5 m6 m7 m8 m9 m10 m11 m12 m13 b0 cI cL (z_103.2.1) (z_105.2) (z_103.2.2))) (va_runV (As := [.int (xs ((x4 + 1)).toNatClampNeg)]) (rest := []) ⟨hx, hb, hml, hown, hts⟩ (ctX5_count l D cI m0 m1 m2 m3 m4 m5 m6 m7 m8 m9 m10 m11 m12 m13 v (xs ((x4 + 1)).toNatClampNeg) z_105 hz_105 H.size) (cwV 1 hts gL_law_X5_count rfl rfl rfl (by decide +kernel) ⟨Nat.le_of_ble_eq_true rfl, Nat.le_of_ble_eq_true rfl⟩) (gPreV (ci := 4) (C := RX5) (T := TX5) (N := 27) hP (hK.sub [0] rfl) hD [17, 18, 19, 20, 21, 22, 23, 24, 25, 26, 27, 28, 29, 30] (by decide) rfl 17 rfl rfl) rfl rfl hl.1 rfl (lv_room (Nat.le_of_ble_eq_true rfl)) dL_law_561 ⟨Nat.le_trans (m := 601024) (by omega) (Nat.le_of_ble_eq_true rfl), Nat.le_trans (m := 7293034) (by omega) (Nat.le_of_ble_eq_true rfl)⟩) hP hD hS hA [17, 18, 19, 20, 21, 22, 23, 24, 25, 26, 27, 28, 29, 30] [0, 1, 2, 3, 4, 5, 6, 7, 8, 9, 10, 11, 12, 13, 14, 15, 16, 31] [0, 1, 2, 3, 4, 5, 6, 7, 8, 9, 10, 11, 12, 13, 14, 15, 16, 18, 19, 20, 21, 22, 23, 24, 25, 26, 27, 28, 29, 30, 31, 17] rfl rfl (by decide) (by decide) rfl (by decide) (fun H locs hP hD hS => ?_)
                          refine lv_istore (lv' := [(6, .int z_105.1), (5, .int z_103.1), (0, .ref b), (1, .ref a0), (2, .ref m0), (3, .ref b0), (4, .int x4)]) hx hb dL_law_564 hl (by decide) rfl (fun ls hl => ?_)
                          refine lv_aload_n hx hb dL_law_566 rfl (lv_at hl 4 rfl) ?_
                          obtain ⟨z_106, hz_106, hf⟩ := pLet_out hf
                          refine gI (w' := (wL a0 a1 a2 a3 a4 a5 a6 a7 a8 a9 a10 a11 a12 a13 a14 a15 a16 m0 m1 m2 m3 m4 m5 m6 m7 m8 m9 m10 m11 m12 m13 b0 cI cL (z_103.2.1) (z_105.2) (z_103.2.2))) (va_runV (As := []) (rest := []) ⟨hx, hb, hml, hown, hts⟩ (ctX5_thrown l D cI m0 m1 m2 m3 m4 m5 m6 m7 m8 m9 m10 m11 m12 m13 (z_105.2) z_106 hz_106.symm H.size) (cwV 0 hts gL_law_X5_thrown rfl rfl rfl (by decide +kernel) ⟨Nat.le_of_ble_eq_true rfl, Nat.le_of_ble_eq_true rfl⟩) (gPreV (ci := 4) (C := RX5) (T := TX5) (N := 27) hP (hK.sub [0] rfl) hD [17, 18, 19, 20, 21, 22, 23, 24, 25, 26, 27, 28, 29, 30] (by decide) rfl 17 rfl rfl) rfl rfl hl.1 rfl (lv_room (Nat.le_of_ble_eq_true rfl)) dL_law_567 ⟨Nat.le_trans (m := 601024) (by omega) (Nat.le_of_ble_eq_true rfl), Nat.le_trans (m := 7293034) (by omega) (Nat.le_of_ble_eq_true rfl)⟩) hP hD hS hA [17, 18, 19, 20, 21, 22, 23, 24, 25, 26, 27, 28, 29, 30] [0, 1, 2, 3, 4, 5, 6, 7, 8, 9, 10, 11, 12, 13, 14, 15, 16, 31] [0, 1, 2, 3, 4, 5, 6, 7, 8, 9, 10, 11, 12, 13, 14, 15, 16, 18, 19, 20, 21, 22, 23, 24, 25, 26, 27, 28, 29, 30, 31, 17] rfl rfl (by decide) (by decide) rfl (by decide) (fun H locs hP hD hS => ?_)
                          refine lv_iload hx hb dL_law_570 (lv_at hl 1 rfl) ?_
                          refine lv_icmp_eq (tgt := 577) hx hb dL_law_572 (by decide) (fun c_107 => ?_) (fun c_107 => ?_)
                          · replace hf := pI_t c_107 hf
                            refine lv_iload hx hb dL_law_577 (lv_at hl 1 rfl) ?_
                            refine lv_if_ne (tgt := 594) hx hb dL_law_579 (by decide) (fun c_108 => ?_) (fun c_108 => ?_)
                            · replace hf := pI_f c_108 hf
                              refine lv_goto (tgt := 597) hx hb dL_law_594 (by decide) ?_
                              exact turn _ _ _ H locs ls _ _ (by omega) (by omega) hf hP hD hS (lv_sub hl [2, 3, 4, 5, 6] rfl)
                            · replace hf := pI_t c_108 hf
                              refine lv_aload_n hx hb dL_law_582 rfl (lv_at hl 5 rfl) ?_
                              refine lv_iconst (v := 0) hx hb dL_law_583 (by decide) ?_
                              obtain ⟨h_110, hf⟩ := pIn_out hf
                              refine va_lald hx hb hK hP 31 1 rfl rfl h_110 dL_law_584 ?_
                              refine lv_iload hx hb dL_law_585 (lv_at hl 0 rfl) ?_
                              refine lv_i2l (v := (z_105.1).toInt64) hx hb dL_law_587 rfl ?_
                              refine W.lcmp hx hb dL_law_588 ?_
                              refine lv_if_eq (tgt := 594) hx hb dL_law_589 (by decide) (fun c_111 => ?_) (fun c_111 => ?_)
                              · replace hf := pI_t c_111 hf
                                refine lv_goto (tgt := 597) hx hb dL_law_594 (by decide) ?_
                                exact turn _ _ _ H locs ls _ _ (by omega) (by omega) hf hP hD hS (lv_sub hl [2, 3, 4, 5, 6] rfl)
                              · replace hf := pI_f c_111 hf
                                refine lv_iconst (v := 0) hx hb dL_law_592 (by decide) ?_
                                exact absurd (Option.some.inj hf) (by decide)
                          · replace hf := pI_f c_107 hf
                            refine lv_iconst (v := 0) hx hb dL_law_575 (by decide) ?_
                            exact absurd (Option.some.inj hf) (by decide)
                        · replace hf := pI_f c_113 hf
                          have nc_16 := lv_neT (k := 0) (a := 0) c_16 (by decide)
                          have nc_28 := lv_neT (k := 1) (a := 1) c_28 (by decide)
                          have nc_38 := lv_neT (k := 2) (a := 2) c_38 (by decide)
                          have nc_50 := lv_neT (k := 3) (a := 3) c_50 (by decide)
                          have nc_62 := lv_neT (k := 4) (a := 4) c_62 (by decide)
                          have nc_74 := lv_neT (k := 5) (a := 5) c_74 (by decide)
                          have nc_82 := lv_neT (k := 6) (a := 6) c_82 (by decide)
                          have nc_94 := lv_neT (k := 7) (a := 7) c_94 (by decide)
                          have nc_101 := lv_neT (k := 8) (a := 8) c_101 (by decide)
                          have nc_113 := lv_neT (k := 9) (a := 9) c_113 (by decide)
                          refine lv_tableOut (tgt := 597) hx hb dL_law_39 (by omega) (by decide) ?_
                          exact turn _ _ _ H locs ls _ _ (by omega) (by omega) hf hP hD hS (lv_sub hl [0, 1, 2, 3, 4] rfl)

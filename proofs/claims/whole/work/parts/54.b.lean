def mkF (st : Nat → Int32) (r : Int32) : Nat → Int32 := upd (upd (upd st 5 (if r &&& 255 = 0 then 1 else 0)) 6 ((r >>> ((8 : Int32) &&& 31)) &&& 1)) 7 ((r >>> ((7 : Int32) &&& 31)) &&& 1)
set_option maxRecDepth 20000 in
theorem makeFlags_c (st mem : Nat → Int32) (iq : TQ) (outs : Nat → Int32) (gv wr r : Int32) : fX2_makeFlags (st, mem, iq, outs, gv, wr) r = some (mkF st r, mem, iq, outs, gv, wr) := by
  unfold mkF
  by_cases h : r &&& 255 = 0
  · simp only [-Int32.reduceToNatClampNeg, fX2_makeFlags_e, fX2_makeFlags_b18_e, pLet_e, h, if_true, p10_5, p10_6, p10_7, j5, j6, j7, gG_state_t, sG_state_t]
  · simp only [-Int32.reduceToNatClampNeg, fX2_makeFlags_e, fX2_makeFlags_b18_e, pLet_e, h, if_false, p10_5, p10_6, p10_7, j5, j6, j7, gG_state_t, sG_state_t]
set_option maxRecDepth 20000 in
theorem ex_7 {st mem outs : Nat → Int32} {iq : TQ} {gv wr : Int32} {b n d s : Nat} (hb : b < 256) (hn : n < 256) (hk : kC b = 7) (hde : b / 4 % 4 = d) (hse : b % 4 = s) :
    fX2_execute (st, mem, iq, outs, gv, wr) (nI (wd b n false)) = some (mkF (upd (upd st 9 ((st 9 + 1) &&& 255)) d ((st d + st s) &&& 255)) (st d + st s), mem, iq, outs, gv, wr) := by
  have e1 : fX1_kind (nI (wd b n false)) = 7 := kC_7 hb hn hk rfl
  have e2 := w_d (dd := false) hb hn
  have e3 := w_s (dd := false) hb hn
  have e5 := w_n (dd := false) hb hn
  have e4 : fX1_isDead (nI (wd b n false)) = 0 := w_dead (dd := false) hb hn
  generalize nI (wd b n false) = w at e1 e2 e3 e4 e5
  have hd : b / 4 % 4 < 4 := by omega
  have hs : b % 4 < 4 := by omega
  rw [hde] at e2 hd
  rw [hse] at e3 hs
  have c1 : (nI d).toNatClampNeg = d := cl_n (by omega)
  have c2 : (nI s).toNatClampNeg = s := cl_n (by omega)
  have g1 : ∀ {β : Type} (k : Option β), pIn (nI d) 10 k = k := fun k => pIn_n (by omega) (by omega)
  have g2 : ∀ {β : Type} (k : Option β), pIn (nI s) 10 k = k := fun k => pIn_n (by omega) (by omega)
  have f1 : fX1_bytes 7 = 1 := by decide
  have f2 : fX1_makesFlags 7 = 1 := by decide
  have f3 : fX1_onlyCompares 7 = 0 := by decide
  have u1 : ∀ x : Int32, upd st 9 x d = st d := fun x => pk_un (by omega)
  have u2 : ∀ x : Int32, upd st 9 x s = st s := fun x => pk_un (by omega)
  have u6 : ∀ x : Int32, upd st 9 x 6 = st 6 := fun x => pk_un (by omega)
  simp only [-Int32.reduceToNatClampNeg, pLet_e, pB_e2, fX2_execute_e, fX2_calculate_e, fX2_calculate_b21_e, fX2_calculate_b56_e, fX2_calculate_b89_e, fX2_resultWithCarry_e, makeFlags_c, gG_state_t, sG_state_t, gG_memory_t, sG_memory_t, gG_inputs_t, sG_inputs_t, gG_outputs_t, sG_outputs_t, gG_given_t, sG_given_t, gG_written_t, sG_written_t, j0, j1, j2, j3, j4, j5, j6, j7, j8, j9, j10, j11, j12, p10_0, p10_1, p10_2, p10_3, p10_4, p10_5, p10_6, p10_7, p10_8, p10_9, e1, e2, e3, e4, e5, c1, c2, g1, g2, f1, f2, f3, u1, u2, u6, if_true, if_false, ne_1_0, ne_1_2, ne_7_0, ne_7_1, ne_7_2, ne_7_3, ne_7_4, ne_7_5, ne_7_6, ne_7_8, ne_7_9, ne_7_10, ne_7_11, ne_7_12, ne_7_13, ne_7_14, ne_7_15, ne_7_16, ne_7_17, ne_7_18, ne_7_19, ne_7_20, ne_7_21, ne_7_22, ne_7_23, ne_7_24, ne_7_25, ne_7_26, ne_7_27, ne_7_28, ne_7_29]
set_option maxRecDepth 20000 in
theorem ex_7d {st mem outs : Nat → Int32} {iq : TQ} {gv wr : Int32} {b n d s : Nat} (hb : b < 256) (hn : n < 256) (hk : kC b = 7) (hde : b / 4 % 4 = d) (hse : b % 4 = s) :
    fX2_execute (st, mem, iq, outs, gv, wr) (nI (wd b n true)) = some ((upd (upd st 9 ((st 9 + 1) &&& 255)) d ((st d + st s) &&& 255)), mem, iq, outs, gv, wr) := by
  have e1 : fX1_kind (nI (wd b n true)) = 7 := kC_7 hb hn hk rfl
  have e2 := w_d (dd := true) hb hn
  have e3 := w_s (dd := true) hb hn
  have e5 := w_n (dd := true) hb hn
  have e4 : fX1_isDead (nI (wd b n true)) = 1 := w_dead (dd := true) hb hn
  generalize nI (wd b n true) = w at e1 e2 e3 e4 e5
  have hd : b / 4 % 4 < 4 := by omega
  have hs : b % 4 < 4 := by omega
  rw [hde] at e2 hd
  rw [hse] at e3 hs
  have c1 : (nI d).toNatClampNeg = d := cl_n (by omega)
  have c2 : (nI s).toNatClampNeg = s := cl_n (by omega)
  have g1 : ∀ {β : Type} (k : Option β), pIn (nI d) 10 k = k := fun k => pIn_n (by omega) (by omega)
  have g2 : ∀ {β : Type} (k : Option β), pIn (nI s) 10 k = k := fun k => pIn_n (by omega) (by omega)
  have f1 : fX1_bytes 7 = 1 := by decide
  have f2 : fX1_makesFlags 7 = 1 := by decide
  have f3 : fX1_onlyCompares 7 = 0 := by decide
  have u1 : ∀ x : Int32, upd st 9 x d = st d := fun x => pk_un (by omega)
  have u2 : ∀ x : Int32, upd st 9 x s = st s := fun x => pk_un (by omega)
  have u6 : ∀ x : Int32, upd st 9 x 6 = st 6 := fun x => pk_un (by omega)
  simp only [-Int32.reduceToNatClampNeg, pLet_e, pB_e2, fX2_execute_e, fX2_calculate_e, fX2_calculate_b21_e, fX2_calculate_b56_e, fX2_calculate_b89_e, fX2_resultWithCarry_e, makeFlags_c, gG_state_t, sG_state_t, gG_memory_t, sG_memory_t, gG_inputs_t, sG_inputs_t, gG_outputs_t, sG_outputs_t, gG_given_t, sG_given_t, gG_written_t, sG_written_t, j0, j1, j2, j3, j4, j5, j6, j7, j8, j9, j10, j11, j12, p10_0, p10_1, p10_2, p10_3, p10_4, p10_5, p10_6, p10_7, p10_8, p10_9, e1, e2, e3, e4, e5, c1, c2, g1, g2, f1, f2, f3, u1, u2, u6, if_true, if_false, ne_1_0, ne_1_2, ne_7_0, ne_7_1, ne_7_2, ne_7_3, ne_7_4, ne_7_5, ne_7_6, ne_7_8, ne_7_9, ne_7_10, ne_7_11, ne_7_12, ne_7_13, ne_7_14, ne_7_15, ne_7_16, ne_7_17, ne_7_18, ne_7_19, ne_7_20, ne_7_21, ne_7_22, ne_7_23, ne_7_24, ne_7_25, ne_7_26, ne_7_27, ne_7_28, ne_7_29]
set_option maxRecDepth 20000 in
theorem ex_8 {st mem outs : Nat → Int32} {iq : TQ} {gv wr : Int32} {b n d s : Nat} (hb : b < 256) (hn : n < 256) (hk : kC b = 8) (hde : b / 4 % 4 = d) (hse : b % 4 = s) :
    fX2_execute (st, mem, iq, outs, gv, wr) (nI (wd b n false)) = some (mkF (upd (upd st 9 ((st 9 + 1) &&& 255)) d (((st d + st s) + st 6) &&& 255)) ((st d + st s) + st 6), mem, iq, outs, gv, wr) := by
  have e1 : fX1_kind (nI (wd b n false)) = 8 := kC_7 hb hn hk rfl
  have e2 := w_d (dd := false) hb hn
  have e3 := w_s (dd := false) hb hn
  have e5 := w_n (dd := false) hb hn
  have e4 : fX1_isDead (nI (wd b n false)) = 0 := w_dead (dd := false) hb hn
  generalize nI (wd b n false) = w at e1 e2 e3 e4 e5
  have hd : b / 4 % 4 < 4 := by omega
  have hs : b % 4 < 4 := by omega
  rw [hde] at e2 hd
  rw [hse] at e3 hs
  have c1 : (nI d).toNatClampNeg = d := cl_n (by omega)
  have c2 : (nI s).toNatClampNeg = s := cl_n (by omega)
  have g1 : ∀ {β : Type} (k : Option β), pIn (nI d) 10 k = k := fun k => pIn_n (by omega) (by omega)
  have g2 : ∀ {β : Type} (k : Option β), pIn (nI s) 10 k = k := fun k => pIn_n (by omega) (by omega)
  have f1 : fX1_bytes 8 = 1 := by decide
  have f2 : fX1_makesFlags 8 = 1 := by decide
  have f3 : fX1_onlyCompares 8 = 0 := by decide
  have u1 : ∀ x : Int32, upd st 9 x d = st d := fun x => pk_un (by omega)
  have u2 : ∀ x : Int32, upd st 9 x s = st s := fun x => pk_un (by omega)
  have u6 : ∀ x : Int32, upd st 9 x 6 = st 6 := fun x => pk_un (by omega)
  simp only [-Int32.reduceToNatClampNeg, pLet_e, pB_e2, fX2_execute_e, fX2_calculate_e, fX2_calculate_b21_e, fX2_calculate_b56_e, fX2_calculate_b89_e, fX2_resultWithCarry_e, makeFlags_c, gG_state_t, sG_state_t, gG_memory_t, sG_memory_t, gG_inputs_t, sG_inputs_t, gG_outputs_t, sG_outputs_t, gG_given_t, sG_given_t, gG_written_t, sG_written_t, j0, j1, j2, j3, j4, j5, j6, j7, j8, j9, j10, j11, j12, p10_0, p10_1, p10_2, p10_3, p10_4, p10_5, p10_6, p10_7, p10_8, p10_9, e1, e2, e3, e4, e5, c1, c2, g1, g2, f1, f2, f3, u1, u2, u6, if_true, if_false, ne_1_0, ne_1_2, ne_8_0, ne_8_1, ne_8_2, ne_8_3, ne_8_4, ne_8_5, ne_8_6, ne_8_7, ne_8_9, ne_8_10, ne_8_11, ne_8_12, ne_8_13, ne_8_14, ne_8_15, ne_8_16, ne_8_17, ne_8_18, ne_8_19, ne_8_20, ne_8_21, ne_8_22, ne_8_23, ne_8_24, ne_8_25, ne_8_26, ne_8_27, ne_8_28, ne_8_29]
set_option maxRecDepth 20000 in
theorem ex_8d {st mem outs : Nat → Int32} {iq : TQ} {gv wr : Int32} {b n d s : Nat} (hb : b < 256) (hn : n < 256) (hk : kC b = 8) (hde : b / 4 % 4 = d) (hse : b % 4 = s) :
    fX2_execute (st, mem, iq, outs, gv, wr) (nI (wd b n true)) = some ((upd (upd st 9 ((st 9 + 1) &&& 255)) d (((st d + st s) + st 6) &&& 255)), mem, iq, outs, gv, wr) := by
  have e1 : fX1_kind (nI (wd b n true)) = 8 := kC_7 hb hn hk rfl
  have e2 := w_d (dd := true) hb hn
  have e3 := w_s (dd := true) hb hn
  have e5 := w_n (dd := true) hb hn
  have e4 : fX1_isDead (nI (wd b n true)) = 1 := w_dead (dd := true) hb hn
  generalize nI (wd b n true) = w at e1 e2 e3 e4 e5
  have hd : b / 4 % 4 < 4 := by omega
  have hs : b % 4 < 4 := by omega
  rw [hde] at e2 hd
  rw [hse] at e3 hs
  have c1 : (nI d).toNatClampNeg = d := cl_n (by omega)
  have c2 : (nI s).toNatClampNeg = s := cl_n (by omega)
  have g1 : ∀ {β : Type} (k : Option β), pIn (nI d) 10 k = k := fun k => pIn_n (by omega) (by omega)
  have g2 : ∀ {β : Type} (k : Option β), pIn (nI s) 10 k = k := fun k => pIn_n (by omega) (by omega)
  have f1 : fX1_bytes 8 = 1 := by decide
  have f2 : fX1_makesFlags 8 = 1 := by decide
  have f3 : fX1_onlyCompares 8 = 0 := by decide
  have u1 : ∀ x : Int32, upd st 9 x d = st d := fun x => pk_un (by omega)
  have u2 : ∀ x : Int32, upd st 9 x s = st s := fun x => pk_un (by omega)
  have u6 : ∀ x : Int32, upd st 9 x 6 = st 6 := fun x => pk_un (by omega)
  simp only [-Int32.reduceToNatClampNeg, pLet_e, pB_e2, fX2_execute_e, fX2_calculate_e, fX2_calculate_b21_e, fX2_calculate_b56_e, fX2_calculate_b89_e, fX2_resultWithCarry_e, makeFlags_c, gG_state_t, sG_state_t, gG_memory_t, sG_memory_t, gG_inputs_t, sG_inputs_t, gG_outputs_t, sG_outputs_t, gG_given_t, sG_given_t, gG_written_t, sG_written_t, j0, j1, j2, j3, j4, j5, j6, j7, j8, j9, j10, j11, j12, p10_0, p10_1, p10_2, p10_3, p10_4, p10_5, p10_6, p10_7, p10_8, p10_9, e1, e2, e3, e4, e5, c1, c2, g1, g2, f1, f2, f3, u1, u2, u6, if_true, if_false, ne_1_0, ne_1_2, ne_8_0, ne_8_1, ne_8_2, ne_8_3, ne_8_4, ne_8_5, ne_8_6, ne_8_7, ne_8_9, ne_8_10, ne_8_11, ne_8_12, ne_8_13, ne_8_14, ne_8_15, ne_8_16, ne_8_17, ne_8_18, ne_8_19, ne_8_20, ne_8_21, ne_8_22, ne_8_23, ne_8_24, ne_8_25, ne_8_26, ne_8_27, ne_8_28, ne_8_29]
set_option maxRecDepth 20000 in
theorem ex_9 {st mem outs : Nat → Int32} {iq : TQ} {gv wr : Int32} {b n d s : Nat} (hb : b < 256) (hn : n < 256) (hk : kC b = 9) (hde : b / 4 % 4 = d) (hse : b % 4 = s) :
    fX2_execute (st, mem, iq, outs, gv, wr) (nI (wd b n false)) = some (mkF (upd (upd st 9 ((st 9 + 1) &&& 255)) d ((st d - st s) &&& 255)) (st d - st s), mem, iq, outs, gv, wr) := by
  have e1 : fX1_kind (nI (wd b n false)) = 9 := kC_7 hb hn hk rfl
  have e2 := w_d (dd := false) hb hn
  have e3 := w_s (dd := false) hb hn
  have e5 := w_n (dd := false) hb hn
  have e4 : fX1_isDead (nI (wd b n false)) = 0 := w_dead (dd := false) hb hn
  generalize nI (wd b n false) = w at e1 e2 e3 e4 e5
  have hd : b / 4 % 4 < 4 := by omega
  have hs : b % 4 < 4 := by omega
  rw [hde] at e2 hd
  rw [hse] at e3 hs
  have c1 : (nI d).toNatClampNeg = d := cl_n (by omega)
  have c2 : (nI s).toNatClampNeg = s := cl_n (by omega)
  have g1 : ∀ {β : Type} (k : Option β), pIn (nI d) 10 k = k := fun k => pIn_n (by omega) (by omega)
  have g2 : ∀ {β : Type} (k : Option β), pIn (nI s) 10 k = k := fun k => pIn_n (by omega) (by omega)
  have f1 : fX1_bytes 9 = 1 := by decide
  have f2 : fX1_makesFlags 9 = 1 := by decide
  have f3 : fX1_onlyCompares 9 = 0 := by decide
  have u1 : ∀ x : Int32, upd st 9 x d = st d := fun x => pk_un (by omega)
  have u2 : ∀ x : Int32, upd st 9 x s = st s := fun x => pk_un (by omega)
  have u6 : ∀ x : Int32, upd st 9 x 6 = st 6 := fun x => pk_un (by omega)
  simp only [-Int32.reduceToNatClampNeg, pLet_e, pB_e2, fX2_execute_e, fX2_calculate_e, fX2_calculate_b21_e, fX2_calculate_b56_e, fX2_calculate_b89_e, fX2_resultWithCarry_e, makeFlags_c, gG_state_t, sG_state_t, gG_memory_t, sG_memory_t, gG_inputs_t, sG_inputs_t, gG_outputs_t, sG_outputs_t, gG_given_t, sG_given_t, gG_written_t, sG_written_t, j0, j1, j2, j3, j4, j5, j6, j7, j8, j9, j10, j11, j12, p10_0, p10_1, p10_2, p10_3, p10_4, p10_5, p10_6, p10_7, p10_8, p10_9, e1, e2, e3, e4, e5, c1, c2, g1, g2, f1, f2, f3, u1, u2, u6, if_true, if_false, ne_1_0, ne_1_2, ne_9_0, ne_9_1, ne_9_2, ne_9_3, ne_9_4, ne_9_5, ne_9_6, ne_9_7, ne_9_8, ne_9_10, ne_9_11, ne_9_12, ne_9_13, ne_9_14, ne_9_15, ne_9_16, ne_9_17, ne_9_18, ne_9_19, ne_9_20, ne_9_21, ne_9_22, ne_9_23, ne_9_24, ne_9_25, ne_9_26, ne_9_27, ne_9_28, ne_9_29]
set_option maxRecDepth 20000 in
theorem ex_9d {st mem outs : Nat → Int32} {iq : TQ} {gv wr : Int32} {b n d s : Nat} (hb : b < 256) (hn : n < 256) (hk : kC b = 9) (hde : b / 4 % 4 = d) (hse : b % 4 = s) :
    fX2_execute (st, mem, iq, outs, gv, wr) (nI (wd b n true)) = some ((upd (upd st 9 ((st 9 + 1) &&& 255)) d ((st d - st s) &&& 255)), mem, iq, outs, gv, wr) := by
  have e1 : fX1_kind (nI (wd b n true)) = 9 := kC_7 hb hn hk rfl
  have e2 := w_d (dd := true) hb hn
  have e3 := w_s (dd := true) hb hn
  have e5 := w_n (dd := true) hb hn
  have e4 : fX1_isDead (nI (wd b n true)) = 1 := w_dead (dd := true) hb hn
  generalize nI (wd b n true) = w at e1 e2 e3 e4 e5
  have hd : b / 4 % 4 < 4 := by omega
  have hs : b % 4 < 4 := by omega
  rw [hde] at e2 hd
  rw [hse] at e3 hs
  have c1 : (nI d).toNatClampNeg = d := cl_n (by omega)
  have c2 : (nI s).toNatClampNeg = s := cl_n (by omega)
  have g1 : ∀ {β : Type} (k : Option β), pIn (nI d) 10 k = k := fun k => pIn_n (by omega) (by omega)
  have g2 : ∀ {β : Type} (k : Option β), pIn (nI s) 10 k = k := fun k => pIn_n (by omega) (by omega)
  have f1 : fX1_bytes 9 = 1 := by decide
  have f2 : fX1_makesFlags 9 = 1 := by decide
  have f3 : fX1_onlyCompares 9 = 0 := by decide
  have u1 : ∀ x : Int32, upd st 9 x d = st d := fun x => pk_un (by omega)
  have u2 : ∀ x : Int32, upd st 9 x s = st s := fun x => pk_un (by omega)
  have u6 : ∀ x : Int32, upd st 9 x 6 = st 6 := fun x => pk_un (by omega)
  simp only [-Int32.reduceToNatClampNeg, pLet_e, pB_e2, fX2_execute_e, fX2_calculate_e, fX2_calculate_b21_e, fX2_calculate_b56_e, fX2_calculate_b89_e, fX2_resultWithCarry_e, makeFlags_c, gG_state_t, sG_state_t, gG_memory_t, sG_memory_t, gG_inputs_t, sG_inputs_t, gG_outputs_t, sG_outputs_t, gG_given_t, sG_given_t, gG_written_t, sG_written_t, j0, j1, j2, j3, j4, j5, j6, j7, j8, j9, j10, j11, j12, p10_0, p10_1, p10_2, p10_3, p10_4, p10_5, p10_6, p10_7, p10_8, p10_9, e1, e2, e3, e4, e5, c1, c2, g1, g2, f1, f2, f3, u1, u2, u6, if_true, if_false, ne_1_0, ne_1_2, ne_9_0, ne_9_1, ne_9_2, ne_9_3, ne_9_4, ne_9_5, ne_9_6, ne_9_7, ne_9_8, ne_9_10, ne_9_11, ne_9_12, ne_9_13, ne_9_14, ne_9_15, ne_9_16, ne_9_17, ne_9_18, ne_9_19, ne_9_20, ne_9_21, ne_9_22, ne_9_23, ne_9_24, ne_9_25, ne_9_26, ne_9_27, ne_9_28, ne_9_29]
set_option maxRecDepth 20000 in
theorem ex_10 {st mem outs : Nat → Int32} {iq : TQ} {gv wr : Int32} {b n d s : Nat} (hb : b < 256) (hn : n < 256) (hk : kC b = 10) (hde : b / 4 % 4 = d) (hse : b % 4 = s) :
    fX2_execute (st, mem, iq, outs, gv, wr) (nI (wd b n false)) = some (mkF (upd st 9 ((st 9 + 1) &&& 255)) (st d - st s), mem, iq, outs, gv, wr) := by
  have e1 : fX1_kind (nI (wd b n false)) = 10 := kC_7 hb hn hk rfl
  have e2 := w_d (dd := false) hb hn
  have e3 := w_s (dd := false) hb hn
  have e5 := w_n (dd := false) hb hn
  have e4 : fX1_isDead (nI (wd b n false)) = 0 := w_dead (dd := false) hb hn
  generalize nI (wd b n false) = w at e1 e2 e3 e4 e5
  have hd : b / 4 % 4 < 4 := by omega
  have hs : b % 4 < 4 := by omega
  rw [hde] at e2 hd
  rw [hse] at e3 hs
  have c1 : (nI d).toNatClampNeg = d := cl_n (by omega)
  have c2 : (nI s).toNatClampNeg = s := cl_n (by omega)
  have g1 : ∀ {β : Type} (k : Option β), pIn (nI d) 10 k = k := fun k => pIn_n (by omega) (by omega)
  have g2 : ∀ {β : Type} (k : Option β), pIn (nI s) 10 k = k := fun k => pIn_n (by omega) (by omega)
  have f1 : fX1_bytes 10 = 1 := by decide
  have f2 : fX1_makesFlags 10 = 1 := by decide
  have f3 : fX1_onlyCompares 10 = 1 := by decide
  have u1 : ∀ x : Int32, upd st 9 x d = st d := fun x => pk_un (by omega)
  have u2 : ∀ x : Int32, upd st 9 x s = st s := fun x => pk_un (by omega)
  have u6 : ∀ x : Int32, upd st 9 x 6 = st 6 := fun x => pk_un (by omega)
  simp only [-Int32.reduceToNatClampNeg, pLet_e, pB_e2, fX2_execute_e, fX2_calculate_e, fX2_calculate_b21_e, fX2_calculate_b56_e, fX2_calculate_b89_e, fX2_resultWithCarry_e, makeFlags_c, gG_state_t, sG_state_t, gG_memory_t, sG_memory_t, gG_inputs_t, sG_inputs_t, gG_outputs_t, sG_outputs_t, gG_given_t, sG_given_t, gG_written_t, sG_written_t, j0, j1, j2, j3, j4, j5, j6, j7, j8, j9, j10, j11, j12, p10_0, p10_1, p10_2, p10_3, p10_4, p10_5, p10_6, p10_7, p10_8, p10_9, e1, e2, e3, e4, e5, c1, c2, g1, g2, f1, f2, f3, u1, u2, u6, if_true, if_false, ne_1_0, ne_1_2, ne_10_0, ne_10_1, ne_10_2, ne_10_3, ne_10_4, ne_10_5, ne_10_6, ne_10_7, ne_10_8, ne_10_9, ne_10_11, ne_10_12, ne_10_13, ne_10_14, ne_10_15, ne_10_16, ne_10_17, ne_10_18, ne_10_19, ne_10_20, ne_10_21, ne_10_22, ne_10_23, ne_10_24, ne_10_25, ne_10_26, ne_10_27, ne_10_28, ne_10_29]
set_option maxRecDepth 20000 in
theorem ex_10d {st mem outs : Nat → Int32} {iq : TQ} {gv wr : Int32} {b n d s : Nat} (hb : b < 256) (hn : n < 256) (hk : kC b = 10) (hde : b / 4 % 4 = d) (hse : b % 4 = s) :
    fX2_execute (st, mem, iq, outs, gv, wr) (nI (wd b n true)) = some ((upd st 9 ((st 9 + 1) &&& 255)), mem, iq, outs, gv, wr) := by
  have e1 : fX1_kind (nI (wd b n true)) = 10 := kC_7 hb hn hk rfl
  have e2 := w_d (dd := true) hb hn
  have e3 := w_s (dd := true) hb hn
  have e5 := w_n (dd := true) hb hn
  have e4 : fX1_isDead (nI (wd b n true)) = 1 := w_dead (dd := true) hb hn
  generalize nI (wd b n true) = w at e1 e2 e3 e4 e5
  have hd : b / 4 % 4 < 4 := by omega
  have hs : b % 4 < 4 := by omega
  rw [hde] at e2 hd
  rw [hse] at e3 hs
  have c1 : (nI d).toNatClampNeg = d := cl_n (by omega)
  have c2 : (nI s).toNatClampNeg = s := cl_n (by omega)
  have g1 : ∀ {β : Type} (k : Option β), pIn (nI d) 10 k = k := fun k => pIn_n (by omega) (by omega)
  have g2 : ∀ {β : Type} (k : Option β), pIn (nI s) 10 k = k := fun k => pIn_n (by omega) (by omega)
  have f1 : fX1_bytes 10 = 1 := by decide
  have f2 : fX1_makesFlags 10 = 1 := by decide
  have f3 : fX1_onlyCompares 10 = 1 := by decide
  have u1 : ∀ x : Int32, upd st 9 x d = st d := fun x => pk_un (by omega)
  have u2 : ∀ x : Int32, upd st 9 x s = st s := fun x => pk_un (by omega)
  have u6 : ∀ x : Int32, upd st 9 x 6 = st 6 := fun x => pk_un (by omega)
  simp only [-Int32.reduceToNatClampNeg, pLet_e, pB_e2, fX2_execute_e, fX2_calculate_e, fX2_calculate_b21_e, fX2_calculate_b56_e, fX2_calculate_b89_e, fX2_resultWithCarry_e, makeFlags_c, gG_state_t, sG_state_t, gG_memory_t, sG_memory_t, gG_inputs_t, sG_inputs_t, gG_outputs_t, sG_outputs_t, gG_given_t, sG_given_t, gG_written_t, sG_written_t, j0, j1, j2, j3, j4, j5, j6, j7, j8, j9, j10, j11, j12, p10_0, p10_1, p10_2, p10_3, p10_4, p10_5, p10_6, p10_7, p10_8, p10_9, e1, e2, e3, e4, e5, c1, c2, g1, g2, f1, f2, f3, u1, u2, u6, if_true, if_false, ne_1_0, ne_1_2, ne_10_0, ne_10_1, ne_10_2, ne_10_3, ne_10_4, ne_10_5, ne_10_6, ne_10_7, ne_10_8, ne_10_9, ne_10_11, ne_10_12, ne_10_13, ne_10_14, ne_10_15, ne_10_16, ne_10_17, ne_10_18, ne_10_19, ne_10_20, ne_10_21, ne_10_22, ne_10_23, ne_10_24, ne_10_25, ne_10_26, ne_10_27, ne_10_28, ne_10_29]
set_option maxRecDepth 20000 in
theorem ex_11 {st mem outs : Nat → Int32} {iq : TQ} {gv wr : Int32} {b n d s : Nat} (hb : b < 256) (hn : n < 256) (hk : kC b = 11) (hde : b / 4 % 4 = d) (hse : b % 4 = s) :
    fX2_execute (st, mem, iq, outs, gv, wr) (nI (wd b n false)) = some (mkF (upd (upd st 9 ((st 9 + 1) &&& 255)) d ((st d &&& st s) &&& 255)) (st d &&& st s), mem, iq, outs, gv, wr) := by
  have e1 : fX1_kind (nI (wd b n false)) = 11 := kC_7 hb hn hk rfl
  have e2 := w_d (dd := false) hb hn
  have e3 := w_s (dd := false) hb hn
  have e5 := w_n (dd := false) hb hn
  have e4 : fX1_isDead (nI (wd b n false)) = 0 := w_dead (dd := false) hb hn
  generalize nI (wd b n false) = w at e1 e2 e3 e4 e5
  have hd : b / 4 % 4 < 4 := by omega
  have hs : b % 4 < 4 := by omega
  rw [hde] at e2 hd
  rw [hse] at e3 hs
  have c1 : (nI d).toNatClampNeg = d := cl_n (by omega)
  have c2 : (nI s).toNatClampNeg = s := cl_n (by omega)
  have g1 : ∀ {β : Type} (k : Option β), pIn (nI d) 10 k = k := fun k => pIn_n (by omega) (by omega)
  have g2 : ∀ {β : Type} (k : Option β), pIn (nI s) 10 k = k := fun k => pIn_n (by omega) (by omega)
  have f1 : fX1_bytes 11 = 1 := by decide
  have f2 : fX1_makesFlags 11 = 1 := by decide
  have f3 : fX1_onlyCompares 11 = 0 := by decide
  have u1 : ∀ x : Int32, upd st 9 x d = st d := fun x => pk_un (by omega)
  have u2 : ∀ x : Int32, upd st 9 x s = st s := fun x => pk_un (by omega)
  have u6 : ∀ x : Int32, upd st 9 x 6 = st 6 := fun x => pk_un (by omega)
  simp only [-Int32.reduceToNatClampNeg, pLet_e, pB_e2, fX2_execute_e, fX2_calculate_e, fX2_calculate_b21_e, fX2_calculate_b56_e, fX2_calculate_b89_e, fX2_resultWithCarry_e, makeFlags_c, gG_state_t, sG_state_t, gG_memory_t, sG_memory_t, gG_inputs_t, sG_inputs_t, gG_outputs_t, sG_outputs_t, gG_given_t, sG_given_t, gG_written_t, sG_written_t, j0, j1, j2, j3, j4, j5, j6, j7, j8, j9, j10, j11, j12, p10_0, p10_1, p10_2, p10_3, p10_4, p10_5, p10_6, p10_7, p10_8, p10_9, e1, e2, e3, e4, e5, c1, c2, g1, g2, f1, f2, f3, u1, u2, u6, if_true, if_false, ne_1_0, ne_1_2, ne_11_0, ne_11_1, ne_11_2, ne_11_3, ne_11_4, ne_11_5, ne_11_6, ne_11_7, ne_11_8, ne_11_9, ne_11_10, ne_11_12, ne_11_13, ne_11_14, ne_11_15, ne_11_16, ne_11_17, ne_11_18, ne_11_19, ne_11_20, ne_11_21, ne_11_22, ne_11_23, ne_11_24, ne_11_25, ne_11_26, ne_11_27, ne_11_28, ne_11_29]
set_option maxRecDepth 20000 in
theorem ex_11d {st mem outs : Nat → Int32} {iq : TQ} {gv wr : Int32} {b n d s : Nat} (hb : b < 256) (hn : n < 256) (hk : kC b = 11) (hde : b / 4 % 4 = d) (hse : b % 4 = s) :
    fX2_execute (st, mem, iq, outs, gv, wr) (nI (wd b n true)) = some ((upd (upd st 9 ((st 9 + 1) &&& 255)) d ((st d &&& st s) &&& 255)), mem, iq, outs, gv, wr) := by
  have e1 : fX1_kind (nI (wd b n true)) = 11 := kC_7 hb hn hk rfl
  have e2 := w_d (dd := true) hb hn
  have e3 := w_s (dd := true) hb hn
  have e5 := w_n (dd := true) hb hn
  have e4 : fX1_isDead (nI (wd b n true)) = 1 := w_dead (dd := true) hb hn
  generalize nI (wd b n true) = w at e1 e2 e3 e4 e5
  have hd : b / 4 % 4 < 4 := by omega
  have hs : b % 4 < 4 := by omega
  rw [hde] at e2 hd
  rw [hse] at e3 hs
  have c1 : (nI d).toNatClampNeg = d := cl_n (by omega)
  have c2 : (nI s).toNatClampNeg = s := cl_n (by omega)
  have g1 : ∀ {β : Type} (k : Option β), pIn (nI d) 10 k = k := fun k => pIn_n (by omega) (by omega)
  have g2 : ∀ {β : Type} (k : Option β), pIn (nI s) 10 k = k := fun k => pIn_n (by omega) (by omega)
  have f1 : fX1_bytes 11 = 1 := by decide
  have f2 : fX1_makesFlags 11 = 1 := by decide
  have f3 : fX1_onlyCompares 11 = 0 := by decide
  have u1 : ∀ x : Int32, upd st 9 x d = st d := fun x => pk_un (by omega)
  have u2 : ∀ x : Int32, upd st 9 x s = st s := fun x => pk_un (by omega)
  have u6 : ∀ x : Int32, upd st 9 x 6 = st 6 := fun x => pk_un (by omega)
  simp only [-Int32.reduceToNatClampNeg, pLet_e, pB_e2, fX2_execute_e, fX2_calculate_e, fX2_calculate_b21_e, fX2_calculate_b56_e, fX2_calculate_b89_e, fX2_resultWithCarry_e, makeFlags_c, gG_state_t, sG_state_t, gG_memory_t, sG_memory_t, gG_inputs_t, sG_inputs_t, gG_outputs_t, sG_outputs_t, gG_given_t, sG_given_t, gG_written_t, sG_written_t, j0, j1, j2, j3, j4, j5, j6, j7, j8, j9, j10, j11, j12, p10_0, p10_1, p10_2, p10_3, p10_4, p10_5, p10_6, p10_7, p10_8, p10_9, e1, e2, e3, e4, e5, c1, c2, g1, g2, f1, f2, f3, u1, u2, u6, if_true, if_false, ne_1_0, ne_1_2, ne_11_0, ne_11_1, ne_11_2, ne_11_3, ne_11_4, ne_11_5, ne_11_6, ne_11_7, ne_11_8, ne_11_9, ne_11_10, ne_11_12, ne_11_13, ne_11_14, ne_11_15, ne_11_16, ne_11_17, ne_11_18, ne_11_19, ne_11_20, ne_11_21, ne_11_22, ne_11_23, ne_11_24, ne_11_25, ne_11_26, ne_11_27, ne_11_28, ne_11_29]
set_option maxRecDepth 20000 in
theorem ex_12 {st mem outs : Nat → Int32} {iq : TQ} {gv wr : Int32} {b n d s : Nat} (hb : b < 256) (hn : n < 256) (hk : kC b = 12) (hde : b / 4 % 4 = d) (hse : b % 4 = s) :
    fX2_execute (st, mem, iq, outs, gv, wr) (nI (wd b n false)) = some (mkF (upd (upd st 9 ((st 9 + 1) &&& 255)) d ((st d ^^^ st s) &&& 255)) (st d ^^^ st s), mem, iq, outs, gv, wr) := by
  have e1 : fX1_kind (nI (wd b n false)) = 12 := kC_7 hb hn hk rfl
  have e2 := w_d (dd := false) hb hn
  have e3 := w_s (dd := false) hb hn
  have e5 := w_n (dd := false) hb hn
  have e4 : fX1_isDead (nI (wd b n false)) = 0 := w_dead (dd := false) hb hn
  generalize nI (wd b n false) = w at e1 e2 e3 e4 e5
  have hd : b / 4 % 4 < 4 := by omega
  have hs : b % 4 < 4 := by omega
  rw [hde] at e2 hd
  rw [hse] at e3 hs
  have c1 : (nI d).toNatClampNeg = d := cl_n (by omega)
  have c2 : (nI s).toNatClampNeg = s := cl_n (by omega)
  have g1 : ∀ {β : Type} (k : Option β), pIn (nI d) 10 k = k := fun k => pIn_n (by omega) (by omega)
  have g2 : ∀ {β : Type} (k : Option β), pIn (nI s) 10 k = k := fun k => pIn_n (by omega) (by omega)
  have f1 : fX1_bytes 12 = 1 := by decide
  have f2 : fX1_makesFlags 12 = 1 := by decide
  have f3 : fX1_onlyCompares 12 = 0 := by decide
  have u1 : ∀ x : Int32, upd st 9 x d = st d := fun x => pk_un (by omega)
  have u2 : ∀ x : Int32, upd st 9 x s = st s := fun x => pk_un (by omega)
  have u6 : ∀ x : Int32, upd st 9 x 6 = st 6 := fun x => pk_un (by omega)
  simp only [-Int32.reduceToNatClampNeg, pLet_e, pB_e2, fX2_execute_e, fX2_calculate_e, fX2_calculate_b21_e, fX2_calculate_b56_e, fX2_calculate_b89_e, fX2_resultWithCarry_e, makeFlags_c, gG_state_t, sG_state_t, gG_memory_t, sG_memory_t, gG_inputs_t, sG_inputs_t, gG_outputs_t, sG_outputs_t, gG_given_t, sG_given_t, gG_written_t, sG_written_t, j0, j1, j2, j3, j4, j5, j6, j7, j8, j9, j10, j11, j12, p10_0, p10_1, p10_2, p10_3, p10_4, p10_5, p10_6, p10_7, p10_8, p10_9, e1, e2, e3, e4, e5, c1, c2, g1, g2, f1, f2, f3, u1, u2, u6, if_true, if_false, ne_1_0, ne_1_2, ne_12_0, ne_12_1, ne_12_2, ne_12_3, ne_12_4, ne_12_5, ne_12_6, ne_12_7, ne_12_8, ne_12_9, ne_12_10, ne_12_11, ne_12_13, ne_12_14, ne_12_15, ne_12_16, ne_12_17, ne_12_18, ne_12_19, ne_12_20, ne_12_21, ne_12_22, ne_12_23, ne_12_24, ne_12_25, ne_12_26, ne_12_27, ne_12_28, ne_12_29]
set_option maxRecDepth 20000 in
theorem ex_12d {st mem outs : Nat → Int32} {iq : TQ} {gv wr : Int32} {b n d s : Nat} (hb : b < 256) (hn : n < 256) (hk : kC b = 12) (hde : b / 4 % 4 = d) (hse : b % 4 = s) :
    fX2_execute (st, mem, iq, outs, gv, wr) (nI (wd b n true)) = some ((upd (upd st 9 ((st 9 + 1) &&& 255)) d ((st d ^^^ st s) &&& 255)), mem, iq, outs, gv, wr) := by
  have e1 : fX1_kind (nI (wd b n true)) = 12 := kC_7 hb hn hk rfl
  have e2 := w_d (dd := true) hb hn
  have e3 := w_s (dd := true) hb hn
  have e5 := w_n (dd := true) hb hn
  have e4 : fX1_isDead (nI (wd b n true)) = 1 := w_dead (dd := true) hb hn
  generalize nI (wd b n true) = w at e1 e2 e3 e4 e5
  have hd : b / 4 % 4 < 4 := by omega
  have hs : b % 4 < 4 := by omega
  rw [hde] at e2 hd
  rw [hse] at e3 hs
  have c1 : (nI d).toNatClampNeg = d := cl_n (by omega)
  have c2 : (nI s).toNatClampNeg = s := cl_n (by omega)
  have g1 : ∀ {β : Type} (k : Option β), pIn (nI d) 10 k = k := fun k => pIn_n (by omega) (by omega)
  have g2 : ∀ {β : Type} (k : Option β), pIn (nI s) 10 k = k := fun k => pIn_n (by omega) (by omega)
  have f1 : fX1_bytes 12 = 1 := by decide
  have f2 : fX1_makesFlags 12 = 1 := by decide
  have f3 : fX1_onlyCompares 12 = 0 := by decide
  have u1 : ∀ x : Int32, upd st 9 x d = st d := fun x => pk_un (by omega)
  have u2 : ∀ x : Int32, upd st 9 x s = st s := fun x => pk_un (by omega)
  have u6 : ∀ x : Int32, upd st 9 x 6 = st 6 := fun x => pk_un (by omega)
  simp only [-Int32.reduceToNatClampNeg, pLet_e, pB_e2, fX2_execute_e, fX2_calculate_e, fX2_calculate_b21_e, fX2_calculate_b56_e, fX2_calculate_b89_e, fX2_resultWithCarry_e, makeFlags_c, gG_state_t, sG_state_t, gG_memory_t, sG_memory_t, gG_inputs_t, sG_inputs_t, gG_outputs_t, sG_outputs_t, gG_given_t, sG_given_t, gG_written_t, sG_written_t, j0, j1, j2, j3, j4, j5, j6, j7, j8, j9, j10, j11, j12, p10_0, p10_1, p10_2, p10_3, p10_4, p10_5, p10_6, p10_7, p10_8, p10_9, e1, e2, e3, e4, e5, c1, c2, g1, g2, f1, f2, f3, u1, u2, u6, if_true, if_false, ne_1_0, ne_1_2, ne_12_0, ne_12_1, ne_12_2, ne_12_3, ne_12_4, ne_12_5, ne_12_6, ne_12_7, ne_12_8, ne_12_9, ne_12_10, ne_12_11, ne_12_13, ne_12_14, ne_12_15, ne_12_16, ne_12_17, ne_12_18, ne_12_19, ne_12_20, ne_12_21, ne_12_22, ne_12_23, ne_12_24, ne_12_25, ne_12_26, ne_12_27, ne_12_28, ne_12_29]
set_option maxRecDepth 20000 in
theorem ex_13 {st mem outs : Nat → Int32} {iq : TQ} {gv wr : Int32} {b n d s : Nat} (hb : b < 256) (hn : n < 256) (hk : kC b = 13) (hde : b / 4 % 4 = d) (hse : b % 4 = s) :
    fX2_execute (st, mem, iq, outs, gv, wr) (nI (wd b n false)) = some (mkF (upd (upd st 9 ((st 9 + 1) &&& 255)) d ((st d <<< ((1 : Int32) &&& 31)) &&& 255)) (st d <<< ((1 : Int32) &&& 31)), mem, iq, outs, gv, wr) := by
  have e1 : fX1_kind (nI (wd b n false)) = 13 := kC_7 hb hn hk rfl
  have e2 := w_d (dd := false) hb hn
  have e3 := w_s (dd := false) hb hn
  have e5 := w_n (dd := false) hb hn
  have e4 : fX1_isDead (nI (wd b n false)) = 0 := w_dead (dd := false) hb hn
  generalize nI (wd b n false) = w at e1 e2 e3 e4 e5
  have hd : b / 4 % 4 < 4 := by omega
  have hs : b % 4 < 4 := by omega
  rw [hde] at e2 hd
  rw [hse] at e3 hs
  have c1 : (nI d).toNatClampNeg = d := cl_n (by omega)
  have c2 : (nI s).toNatClampNeg = s := cl_n (by omega)
  have g1 : ∀ {β : Type} (k : Option β), pIn (nI d) 10 k = k := fun k => pIn_n (by omega) (by omega)
  have g2 : ∀ {β : Type} (k : Option β), pIn (nI s) 10 k = k := fun k => pIn_n (by omega) (by omega)
  have f1 : fX1_bytes 13 = 1 := by decide
  have f2 : fX1_makesFlags 13 = 1 := by decide
  have f3 : fX1_onlyCompares 13 = 0 := by decide
  have u1 : ∀ x : Int32, upd st 9 x d = st d := fun x => pk_un (by omega)
  have u2 : ∀ x : Int32, upd st 9 x s = st s := fun x => pk_un (by omega)
  have u6 : ∀ x : Int32, upd st 9 x 6 = st 6 := fun x => pk_un (by omega)
  simp only [-Int32.reduceToNatClampNeg, pLet_e, pB_e2, fX2_execute_e, fX2_calculate_e, fX2_calculate_b21_e, fX2_calculate_b56_e, fX2_calculate_b89_e, fX2_resultWithCarry_e, makeFlags_c, gG_state_t, sG_state_t, gG_memory_t, sG_memory_t, gG_inputs_t, sG_inputs_t, gG_outputs_t, sG_outputs_t, gG_given_t, sG_given_t, gG_written_t, sG_written_t, j0, j1, j2, j3, j4, j5, j6, j7, j8, j9, j10, j11, j12, p10_0, p10_1, p10_2, p10_3, p10_4, p10_5, p10_6, p10_7, p10_8, p10_9, e1, e2, e3, e4, e5, c1, c2, g1, g2, f1, f2, f3, u1, u2, u6, if_true, if_false, ne_1_0, ne_1_2, ne_13_0, ne_13_1, ne_13_2, ne_13_3, ne_13_4, ne_13_5, ne_13_6, ne_13_7, ne_13_8, ne_13_9, ne_13_10, ne_13_11, ne_13_12, ne_13_14, ne_13_15, ne_13_16, ne_13_17, ne_13_18, ne_13_19, ne_13_20, ne_13_21, ne_13_22, ne_13_23, ne_13_24, ne_13_25, ne_13_26, ne_13_27, ne_13_28, ne_13_29]
set_option maxRecDepth 20000 in
theorem ex_13d {st mem outs : Nat → Int32} {iq : TQ} {gv wr : Int32} {b n d s : Nat} (hb : b < 256) (hn : n < 256) (hk : kC b = 13) (hde : b / 4 % 4 = d) (hse : b % 4 = s) :
    fX2_execute (st, mem, iq, outs, gv, wr) (nI (wd b n true)) = some ((upd (upd st 9 ((st 9 + 1) &&& 255)) d ((st d <<< ((1 : Int32) &&& 31)) &&& 255)), mem, iq, outs, gv, wr) := by
  have e1 : fX1_kind (nI (wd b n true)) = 13 := kC_7 hb hn hk rfl
  have e2 := w_d (dd := true) hb hn
  have e3 := w_s (dd := true) hb hn
  have e5 := w_n (dd := true) hb hn
  have e4 : fX1_isDead (nI (wd b n true)) = 1 := w_dead (dd := true) hb hn
  generalize nI (wd b n true) = w at e1 e2 e3 e4 e5
  have hd : b / 4 % 4 < 4 := by omega
  have hs : b % 4 < 4 := by omega
  rw [hde] at e2 hd
  rw [hse] at e3 hs
  have c1 : (nI d).toNatClampNeg = d := cl_n (by omega)
  have c2 : (nI s).toNatClampNeg = s := cl_n (by omega)
  have g1 : ∀ {β : Type} (k : Option β), pIn (nI d) 10 k = k := fun k => pIn_n (by omega) (by omega)
  have g2 : ∀ {β : Type} (k : Option β), pIn (nI s) 10 k = k := fun k => pIn_n (by omega) (by omega)
  have f1 : fX1_bytes 13 = 1 := by decide
  have f2 : fX1_makesFlags 13 = 1 := by decide
  have f3 : fX1_onlyCompares 13 = 0 := by decide
  have u1 : ∀ x : Int32, upd st 9 x d = st d := fun x => pk_un (by omega)
  have u2 : ∀ x : Int32, upd st 9 x s = st s := fun x => pk_un (by omega)
  have u6 : ∀ x : Int32, upd st 9 x 6 = st 6 := fun x => pk_un (by omega)
  simp only [-Int32.reduceToNatClampNeg, pLet_e, pB_e2, fX2_execute_e, fX2_calculate_e, fX2_calculate_b21_e, fX2_calculate_b56_e, fX2_calculate_b89_e, fX2_resultWithCarry_e, makeFlags_c, gG_state_t, sG_state_t, gG_memory_t, sG_memory_t, gG_inputs_t, sG_inputs_t, gG_outputs_t, sG_outputs_t, gG_given_t, sG_given_t, gG_written_t, sG_written_t, j0, j1, j2, j3, j4, j5, j6, j7, j8, j9, j10, j11, j12, p10_0, p10_1, p10_2, p10_3, p10_4, p10_5, p10_6, p10_7, p10_8, p10_9, e1, e2, e3, e4, e5, c1, c2, g1, g2, f1, f2, f3, u1, u2, u6, if_true, if_false, ne_1_0, ne_1_2, ne_13_0, ne_13_1, ne_13_2, ne_13_3, ne_13_4, ne_13_5, ne_13_6, ne_13_7, ne_13_8, ne_13_9, ne_13_10, ne_13_11, ne_13_12, ne_13_14, ne_13_15, ne_13_16, ne_13_17, ne_13_18, ne_13_19, ne_13_20, ne_13_21, ne_13_22, ne_13_23, ne_13_24, ne_13_25, ne_13_26, ne_13_27, ne_13_28, ne_13_29]
set_option maxRecDepth 20000 in
theorem ex_14 {st mem outs : Nat → Int32} {iq : TQ} {gv wr : Int32} {b n d s : Nat} (hb : b < 256) (hn : n < 256) (hk : kC b = 14) (hde : b / 4 % 4 = d) (hse : b % 4 = s) :
    fX2_execute (st, mem, iq, outs, gv, wr) (nI (wd b n false)) = some (mkF (upd (upd st 9 ((st 9 + 1) &&& 255)) d (((st d >>> ((1 : Int32) &&& 31)) ||| ((st d &&& 1) <<< ((8 : Int32) &&& 31))) &&& 255)) ((st d >>> ((1 : Int32) &&& 31)) ||| ((st d &&& 1) <<< ((8 : Int32) &&& 31))), mem, iq, outs, gv, wr) := by
  have e1 : fX1_kind (nI (wd b n false)) = 14 := kC_7 hb hn hk rfl
  have e2 := w_d (dd := false) hb hn
  have e3 := w_s (dd := false) hb hn
  have e5 := w_n (dd := false) hb hn
  have e4 : fX1_isDead (nI (wd b n false)) = 0 := w_dead (dd := false) hb hn
  generalize nI (wd b n false) = w at e1 e2 e3 e4 e5
  have hd : b / 4 % 4 < 4 := by omega
  have hs : b % 4 < 4 := by omega
  rw [hde] at e2 hd
  rw [hse] at e3 hs
  have c1 : (nI d).toNatClampNeg = d := cl_n (by omega)
  have c2 : (nI s).toNatClampNeg = s := cl_n (by omega)
  have g1 : ∀ {β : Type} (k : Option β), pIn (nI d) 10 k = k := fun k => pIn_n (by omega) (by omega)
  have g2 : ∀ {β : Type} (k : Option β), pIn (nI s) 10 k = k := fun k => pIn_n (by omega) (by omega)
  have f1 : fX1_bytes 14 = 1 := by decide
  have f2 : fX1_makesFlags 14 = 1 := by decide
  have f3 : fX1_onlyCompares 14 = 0 := by decide
  have u1 : ∀ x : Int32, upd st 9 x d = st d := fun x => pk_un (by omega)
  have u2 : ∀ x : Int32, upd st 9 x s = st s := fun x => pk_un (by omega)
  have u6 : ∀ x : Int32, upd st 9 x 6 = st 6 := fun x => pk_un (by omega)
  simp only [-Int32.reduceToNatClampNeg, pLet_e, pB_e2, fX2_execute_e, fX2_calculate_e, fX2_calculate_b21_e, fX2_calculate_b56_e, fX2_calculate_b89_e, fX2_resultWithCarry_e, makeFlags_c, gG_state_t, sG_state_t, gG_memory_t, sG_memory_t, gG_inputs_t, sG_inputs_t, gG_outputs_t, sG_outputs_t, gG_given_t, sG_given_t, gG_written_t, sG_written_t, j0, j1, j2, j3, j4, j5, j6, j7, j8, j9, j10, j11, j12, p10_0, p10_1, p10_2, p10_3, p10_4, p10_5, p10_6, p10_7, p10_8, p10_9, e1, e2, e3, e4, e5, c1, c2, g1, g2, f1, f2, f3, u1, u2, u6, if_true, if_false, ne_1_0, ne_1_2, ne_14_0, ne_14_1, ne_14_2, ne_14_3, ne_14_4, ne_14_5, ne_14_6, ne_14_7, ne_14_8, ne_14_9, ne_14_10, ne_14_11, ne_14_12, ne_14_13, ne_14_15, ne_14_16, ne_14_17, ne_14_18, ne_14_19, ne_14_20, ne_14_21, ne_14_22, ne_14_23, ne_14_24, ne_14_25, ne_14_26, ne_14_27, ne_14_28, ne_14_29]
set_option maxRecDepth 20000 in
theorem ex_14d {st mem outs : Nat → Int32} {iq : TQ} {gv wr : Int32} {b n d s : Nat} (hb : b < 256) (hn : n < 256) (hk : kC b = 14) (hde : b / 4 % 4 = d) (hse : b % 4 = s) :
    fX2_execute (st, mem, iq, outs, gv, wr) (nI (wd b n true)) = some ((upd (upd st 9 ((st 9 + 1) &&& 255)) d (((st d >>> ((1 : Int32) &&& 31)) ||| ((st d &&& 1) <<< ((8 : Int32) &&& 31))) &&& 255)), mem, iq, outs, gv, wr) := by
  have e1 : fX1_kind (nI (wd b n true)) = 14 := kC_7 hb hn hk rfl
  have e2 := w_d (dd := true) hb hn
  have e3 := w_s (dd := true) hb hn
  have e5 := w_n (dd := true) hb hn
  have e4 : fX1_isDead (nI (wd b n true)) = 1 := w_dead (dd := true) hb hn
  generalize nI (wd b n true) = w at e1 e2 e3 e4 e5
  have hd : b / 4 % 4 < 4 := by omega
  have hs : b % 4 < 4 := by omega
  rw [hde] at e2 hd
  rw [hse] at e3 hs
  have c1 : (nI d).toNatClampNeg = d := cl_n (by omega)
  have c2 : (nI s).toNatClampNeg = s := cl_n (by omega)
  have g1 : ∀ {β : Type} (k : Option β), pIn (nI d) 10 k = k := fun k => pIn_n (by omega) (by omega)
  have g2 : ∀ {β : Type} (k : Option β), pIn (nI s) 10 k = k := fun k => pIn_n (by omega) (by omega)
  have f1 : fX1_bytes 14 = 1 := by decide
  have f2 : fX1_makesFlags 14 = 1 := by decide
  have f3 : fX1_onlyCompares 14 = 0 := by decide
  have u1 : ∀ x : Int32, upd st 9 x d = st d := fun x => pk_un (by omega)
  have u2 : ∀ x : Int32, upd st 9 x s = st s := fun x => pk_un (by omega)
  have u6 : ∀ x : Int32, upd st 9 x 6 = st 6 := fun x => pk_un (by omega)
  simp only [-Int32.reduceToNatClampNeg, pLet_e, pB_e2, fX2_execute_e, fX2_calculate_e, fX2_calculate_b21_e, fX2_calculate_b56_e, fX2_calculate_b89_e, fX2_resultWithCarry_e, makeFlags_c, gG_state_t, sG_state_t, gG_memory_t, sG_memory_t, gG_inputs_t, sG_inputs_t, gG_outputs_t, sG_outputs_t, gG_given_t, sG_given_t, gG_written_t, sG_written_t, j0, j1, j2, j3, j4, j5, j6, j7, j8, j9, j10, j11, j12, p10_0, p10_1, p10_2, p10_3, p10_4, p10_5, p10_6, p10_7, p10_8, p10_9, e1, e2, e3, e4, e5, c1, c2, g1, g2, f1, f2, f3, u1, u2, u6, if_true, if_false, ne_1_0, ne_1_2, ne_14_0, ne_14_1, ne_14_2, ne_14_3, ne_14_4, ne_14_5, ne_14_6, ne_14_7, ne_14_8, ne_14_9, ne_14_10, ne_14_11, ne_14_12, ne_14_13, ne_14_15, ne_14_16, ne_14_17, ne_14_18, ne_14_19, ne_14_20, ne_14_21, ne_14_22, ne_14_23, ne_14_24, ne_14_25, ne_14_26, ne_14_27, ne_14_28, ne_14_29]
set_option maxRecDepth 20000 in
theorem ex_15 {st mem outs : Nat → Int32} {iq : TQ} {gv wr : Int32} {b n d s : Nat} (hb : b < 256) (hn : n < 256) (hk : kC b = 15) (hde : b / 4 % 4 = d) (hse : b % 4 = s) :
    fX2_execute (st, mem, iq, outs, gv, wr) (nI (wd b n false)) = some (mkF (upd (upd st 9 ((st 9 + 1) &&& 255)) d (((st d <<< ((1 : Int32) &&& 31)) ||| st 6) &&& 255)) ((st d <<< ((1 : Int32) &&& 31)) ||| st 6), mem, iq, outs, gv, wr) := by
  have e1 : fX1_kind (nI (wd b n false)) = 15 := kC_7 hb hn hk rfl
  have e2 := w_d (dd := false) hb hn
  have e3 := w_s (dd := false) hb hn
  have e5 := w_n (dd := false) hb hn
  have e4 : fX1_isDead (nI (wd b n false)) = 0 := w_dead (dd := false) hb hn
  generalize nI (wd b n false) = w at e1 e2 e3 e4 e5
  have hd : b / 4 % 4 < 4 := by omega
  have hs : b % 4 < 4 := by omega
  rw [hde] at e2 hd
  rw [hse] at e3 hs
  have c1 : (nI d).toNatClampNeg = d := cl_n (by omega)
  have c2 : (nI s).toNatClampNeg = s := cl_n (by omega)
  have g1 : ∀ {β : Type} (k : Option β), pIn (nI d) 10 k = k := fun k => pIn_n (by omega) (by omega)
  have g2 : ∀ {β : Type} (k : Option β), pIn (nI s) 10 k = k := fun k => pIn_n (by omega) (by omega)
  have f1 : fX1_bytes 15 = 1 := by decide
  have f2 : fX1_makesFlags 15 = 1 := by decide
  have f3 : fX1_onlyCompares 15 = 0 := by decide
  have u1 : ∀ x : Int32, upd st 9 x d = st d := fun x => pk_un (by omega)
  have u2 : ∀ x : Int32, upd st 9 x s = st s := fun x => pk_un (by omega)
  have u6 : ∀ x : Int32, upd st 9 x 6 = st 6 := fun x => pk_un (by omega)
  simp only [-Int32.reduceToNatClampNeg, pLet_e, pB_e2, fX2_execute_e, fX2_calculate_e, fX2_calculate_b21_e, fX2_calculate_b56_e, fX2_calculate_b89_e, fX2_resultWithCarry_e, makeFlags_c, gG_state_t, sG_state_t, gG_memory_t, sG_memory_t, gG_inputs_t, sG_inputs_t, gG_outputs_t, sG_outputs_t, gG_given_t, sG_given_t, gG_written_t, sG_written_t, j0, j1, j2, j3, j4, j5, j6, j7, j8, j9, j10, j11, j12, p10_0, p10_1, p10_2, p10_3, p10_4, p10_5, p10_6, p10_7, p10_8, p10_9, e1, e2, e3, e4, e5, c1, c2, g1, g2, f1, f2, f3, u1, u2, u6, if_true, if_false, ne_1_0, ne_1_2, ne_15_0, ne_15_1, ne_15_2, ne_15_3, ne_15_4, ne_15_5, ne_15_6, ne_15_7, ne_15_8, ne_15_9, ne_15_10, ne_15_11, ne_15_12, ne_15_13, ne_15_14, ne_15_16, ne_15_17, ne_15_18, ne_15_19, ne_15_20, ne_15_21, ne_15_22, ne_15_23, ne_15_24, ne_15_25, ne_15_26, ne_15_27, ne_15_28, ne_15_29]
set_option maxRecDepth 20000 in
theorem ex_15d {st mem outs : Nat → Int32} {iq : TQ} {gv wr : Int32} {b n d s : Nat} (hb : b < 256) (hn : n < 256) (hk : kC b = 15) (hde : b / 4 % 4 = d) (hse : b % 4 = s) :
    fX2_execute (st, mem, iq, outs, gv, wr) (nI (wd b n true)) = some ((upd (upd st 9 ((st 9 + 1) &&& 255)) d (((st d <<< ((1 : Int32) &&& 31)) ||| st 6) &&& 255)), mem, iq, outs, gv, wr) := by
  have e1 : fX1_kind (nI (wd b n true)) = 15 := kC_7 hb hn hk rfl
  have e2 := w_d (dd := true) hb hn
  have e3 := w_s (dd := true) hb hn
  have e5 := w_n (dd := true) hb hn
  have e4 : fX1_isDead (nI (wd b n true)) = 1 := w_dead (dd := true) hb hn
  generalize nI (wd b n true) = w at e1 e2 e3 e4 e5
  have hd : b / 4 % 4 < 4 := by omega
  have hs : b % 4 < 4 := by omega
  rw [hde] at e2 hd
  rw [hse] at e3 hs
  have c1 : (nI d).toNatClampNeg = d := cl_n (by omega)
  have c2 : (nI s).toNatClampNeg = s := cl_n (by omega)
  have g1 : ∀ {β : Type} (k : Option β), pIn (nI d) 10 k = k := fun k => pIn_n (by omega) (by omega)
  have g2 : ∀ {β : Type} (k : Option β), pIn (nI s) 10 k = k := fun k => pIn_n (by omega) (by omega)
  have f1 : fX1_bytes 15 = 1 := by decide
  have f2 : fX1_makesFlags 15 = 1 := by decide
  have f3 : fX1_onlyCompares 15 = 0 := by decide
  have u1 : ∀ x : Int32, upd st 9 x d = st d := fun x => pk_un (by omega)
  have u2 : ∀ x : Int32, upd st 9 x s = st s := fun x => pk_un (by omega)
  have u6 : ∀ x : Int32, upd st 9 x 6 = st 6 := fun x => pk_un (by omega)
  simp only [-Int32.reduceToNatClampNeg, pLet_e, pB_e2, fX2_execute_e, fX2_calculate_e, fX2_calculate_b21_e, fX2_calculate_b56_e, fX2_calculate_b89_e, fX2_resultWithCarry_e, makeFlags_c, gG_state_t, sG_state_t, gG_memory_t, sG_memory_t, gG_inputs_t, sG_inputs_t, gG_outputs_t, sG_outputs_t, gG_given_t, sG_given_t, gG_written_t, sG_written_t, j0, j1, j2, j3, j4, j5, j6, j7, j8, j9, j10, j11, j12, p10_0, p10_1, p10_2, p10_3, p10_4, p10_5, p10_6, p10_7, p10_8, p10_9, e1, e2, e3, e4, e5, c1, c2, g1, g2, f1, f2, f3, u1, u2, u6, if_true, if_false, ne_1_0, ne_1_2, ne_15_0, ne_15_1, ne_15_2, ne_15_3, ne_15_4, ne_15_5, ne_15_6, ne_15_7, ne_15_8, ne_15_9, ne_15_10, ne_15_11, ne_15_12, ne_15_13, ne_15_14, ne_15_16, ne_15_17, ne_15_18, ne_15_19, ne_15_20, ne_15_21, ne_15_22, ne_15_23, ne_15_24, ne_15_25, ne_15_26, ne_15_27, ne_15_28, ne_15_29]
set_option maxRecDepth 20000 in
theorem ex_16 {st mem outs : Nat → Int32} {iq : TQ} {gv wr : Int32} {b n d s : Nat} (hb : b < 256) (hn : n < 256) (hk : kC b = 16) (hde : b / 4 % 4 = d) (hse : b % 4 = s) :
    fX2_execute (st, mem, iq, outs, gv, wr) (nI (wd b n false)) = some (mkF (upd (upd st 9 ((st 9 + 1) &&& 255)) d ((((st d >>> ((1 : Int32) &&& 31)) ||| (st 6 <<< ((7 : Int32) &&& 31))) ||| ((st d &&& 1) <<< ((8 : Int32) &&& 31))) &&& 255)) (((st d >>> ((1 : Int32) &&& 31)) ||| (st 6 <<< ((7 : Int32) &&& 31))) ||| ((st d &&& 1) <<< ((8 : Int32) &&& 31))), mem, iq, outs, gv, wr) := by
  have e1 : fX1_kind (nI (wd b n false)) = 16 := kC_7 hb hn hk rfl
  have e2 := w_d (dd := false) hb hn
  have e3 := w_s (dd := false) hb hn
  have e5 := w_n (dd := false) hb hn
  have e4 : fX1_isDead (nI (wd b n false)) = 0 := w_dead (dd := false) hb hn
  generalize nI (wd b n false) = w at e1 e2 e3 e4 e5
  have hd : b / 4 % 4 < 4 := by omega
  have hs : b % 4 < 4 := by omega
  rw [hde] at e2 hd
  rw [hse] at e3 hs
  have c1 : (nI d).toNatClampNeg = d := cl_n (by omega)
  have c2 : (nI s).toNatClampNeg = s := cl_n (by omega)
  have g1 : ∀ {β : Type} (k : Option β), pIn (nI d) 10 k = k := fun k => pIn_n (by omega) (by omega)
  have g2 : ∀ {β : Type} (k : Option β), pIn (nI s) 10 k = k := fun k => pIn_n (by omega) (by omega)
  have f1 : fX1_bytes 16 = 1 := by decide
  have f2 : fX1_makesFlags 16 = 1 := by decide
  have f3 : fX1_onlyCompares 16 = 0 := by decide
  have u1 : ∀ x : Int32, upd st 9 x d = st d := fun x => pk_un (by omega)
  have u2 : ∀ x : Int32, upd st 9 x s = st s := fun x => pk_un (by omega)
  have u6 : ∀ x : Int32, upd st 9 x 6 = st 6 := fun x => pk_un (by omega)
  simp only [-Int32.reduceToNatClampNeg, pLet_e, pB_e2, fX2_execute_e, fX2_calculate_e, fX2_calculate_b21_e, fX2_calculate_b56_e, fX2_calculate_b89_e, fX2_resultWithCarry_e, makeFlags_c, gG_state_t, sG_state_t, gG_memory_t, sG_memory_t, gG_inputs_t, sG_inputs_t, gG_outputs_t, sG_outputs_t, gG_given_t, sG_given_t, gG_written_t, sG_written_t, j0, j1, j2, j3, j4, j5, j6, j7, j8, j9, j10, j11, j12, p10_0, p10_1, p10_2, p10_3, p10_4, p10_5, p10_6, p10_7, p10_8, p10_9, e1, e2, e3, e4, e5, c1, c2, g1, g2, f1, f2, f3, u1, u2, u6, if_true, if_false, ne_1_0, ne_1_2, ne_16_0, ne_16_1, ne_16_2, ne_16_3, ne_16_4, ne_16_5, ne_16_6, ne_16_7, ne_16_8, ne_16_9, ne_16_10, ne_16_11, ne_16_12, ne_16_13, ne_16_14, ne_16_15, ne_16_17, ne_16_18, ne_16_19, ne_16_20, ne_16_21, ne_16_22, ne_16_23, ne_16_24, ne_16_25, ne_16_26, ne_16_27, ne_16_28, ne_16_29]
set_option maxRecDepth 20000 in
theorem ex_16d {st mem outs : Nat → Int32} {iq : TQ} {gv wr : Int32} {b n d s : Nat} (hb : b < 256) (hn : n < 256) (hk : kC b = 16) (hde : b / 4 % 4 = d) (hse : b % 4 = s) :
    fX2_execute (st, mem, iq, outs, gv, wr) (nI (wd b n true)) = some ((upd (upd st 9 ((st 9 + 1) &&& 255)) d ((((st d >>> ((1 : Int32) &&& 31)) ||| (st 6 <<< ((7 : Int32) &&& 31))) ||| ((st d &&& 1) <<< ((8 : Int32) &&& 31))) &&& 255)), mem, iq, outs, gv, wr) := by
  have e1 : fX1_kind (nI (wd b n true)) = 16 := kC_7 hb hn hk rfl
  have e2 := w_d (dd := true) hb hn
  have e3 := w_s (dd := true) hb hn
  have e5 := w_n (dd := true) hb hn
  have e4 : fX1_isDead (nI (wd b n true)) = 1 := w_dead (dd := true) hb hn
  generalize nI (wd b n true) = w at e1 e2 e3 e4 e5
  have hd : b / 4 % 4 < 4 := by omega
  have hs : b % 4 < 4 := by omega
  rw [hde] at e2 hd
  rw [hse] at e3 hs
  have c1 : (nI d).toNatClampNeg = d := cl_n (by omega)
  have c2 : (nI s).toNatClampNeg = s := cl_n (by omega)
  have g1 : ∀ {β : Type} (k : Option β), pIn (nI d) 10 k = k := fun k => pIn_n (by omega) (by omega)
  have g2 : ∀ {β : Type} (k : Option β), pIn (nI s) 10 k = k := fun k => pIn_n (by omega) (by omega)
  have f1 : fX1_bytes 16 = 1 := by decide
  have f2 : fX1_makesFlags 16 = 1 := by decide
  have f3 : fX1_onlyCompares 16 = 0 := by decide
  have u1 : ∀ x : Int32, upd st 9 x d = st d := fun x => pk_un (by omega)
  have u2 : ∀ x : Int32, upd st 9 x s = st s := fun x => pk_un (by omega)
  have u6 : ∀ x : Int32, upd st 9 x 6 = st 6 := fun x => pk_un (by omega)
  simp only [-Int32.reduceToNatClampNeg, pLet_e, pB_e2, fX2_execute_e, fX2_calculate_e, fX2_calculate_b21_e, fX2_calculate_b56_e, fX2_calculate_b89_e, fX2_resultWithCarry_e, makeFlags_c, gG_state_t, sG_state_t, gG_memory_t, sG_memory_t, gG_inputs_t, sG_inputs_t, gG_outputs_t, sG_outputs_t, gG_given_t, sG_given_t, gG_written_t, sG_written_t, j0, j1, j2, j3, j4, j5, j6, j7, j8, j9, j10, j11, j12, p10_0, p10_1, p10_2, p10_3, p10_4, p10_5, p10_6, p10_7, p10_8, p10_9, e1, e2, e3, e4, e5, c1, c2, g1, g2, f1, f2, f3, u1, u2, u6, if_true, if_false, ne_1_0, ne_1_2, ne_16_0, ne_16_1, ne_16_2, ne_16_3, ne_16_4, ne_16_5, ne_16_6, ne_16_7, ne_16_8, ne_16_9, ne_16_10, ne_16_11, ne_16_12, ne_16_13, ne_16_14, ne_16_15, ne_16_17, ne_16_18, ne_16_19, ne_16_20, ne_16_21, ne_16_22, ne_16_23, ne_16_24, ne_16_25, ne_16_26, ne_16_27, ne_16_28, ne_16_29]
set_option maxRecDepth 20000 in
theorem ex_18 {st mem outs : Nat → Int32} {iq : TQ} {gv wr : Int32} {b n d s : Nat} (hb : b < 256) (hn : n < 256) (hk : kC b = 18) (hde : b / 4 % 4 = d) (hse : b % 4 = s) :
    fX2_execute (st, mem, iq, outs, gv, wr) (nI (wd b n false)) = some (mkF (upd (upd st 9 ((st 9 + 2) &&& 255)) d ((st d + nI n) &&& 255)) (st d + nI n), mem, iq, outs, gv, wr) := by
  have e1 : fX1_kind (nI (wd b n false)) = 18 := kC_7 hb hn hk rfl
  have e2 := w_d (dd := false) hb hn
  have e3 := w_s (dd := false) hb hn
  have e5 := w_n (dd := false) hb hn
  have e4 : fX1_isDead (nI (wd b n false)) = 0 := w_dead (dd := false) hb hn
  generalize nI (wd b n false) = w at e1 e2 e3 e4 e5
  have hd : b / 4 % 4 < 4 := by omega
  have hs : b % 4 < 4 := by omega
  rw [hde] at e2 hd
  rw [hse] at e3 hs
  have c1 : (nI d).toNatClampNeg = d := cl_n (by omega)
  have c2 : (nI s).toNatClampNeg = s := cl_n (by omega)
  have g1 : ∀ {β : Type} (k : Option β), pIn (nI d) 10 k = k := fun k => pIn_n (by omega) (by omega)
  have g2 : ∀ {β : Type} (k : Option β), pIn (nI s) 10 k = k := fun k => pIn_n (by omega) (by omega)
  have f1 : fX1_bytes 18 = 2 := by decide
  have f2 : fX1_makesFlags 18 = 1 := by decide
  have f3 : fX1_onlyCompares 18 = 0 := by decide
  have u1 : ∀ x : Int32, upd st 9 x d = st d := fun x => pk_un (by omega)
  have u2 : ∀ x : Int32, upd st 9 x s = st s := fun x => pk_un (by omega)
  have u6 : ∀ x : Int32, upd st 9 x 6 = st 6 := fun x => pk_un (by omega)
  simp only [-Int32.reduceToNatClampNeg, pLet_e, pB_e2, fX2_execute_e, fX2_calculate_e, fX2_calculate_b21_e, fX2_calculate_b56_e, fX2_calculate_b89_e, fX2_resultWithCarry_e, makeFlags_c, gG_state_t, sG_state_t, gG_memory_t, sG_memory_t, gG_inputs_t, sG_inputs_t, gG_outputs_t, sG_outputs_t, gG_given_t, sG_given_t, gG_written_t, sG_written_t, j0, j1, j2, j3, j4, j5, j6, j7, j8, j9, j10, j11, j12, p10_0, p10_1, p10_2, p10_3, p10_4, p10_5, p10_6, p10_7, p10_8, p10_9, e1, e2, e3, e4, e5, c1, c2, g1, g2, f1, f2, f3, u1, u2, u6, if_true, if_false, ne_1_0, ne_1_2, ne_18_0, ne_18_1, ne_18_2, ne_18_3, ne_18_4, ne_18_5, ne_18_6, ne_18_7, ne_18_8, ne_18_9, ne_18_10, ne_18_11, ne_18_12, ne_18_13, ne_18_14, ne_18_15, ne_18_16, ne_18_17, ne_18_19, ne_18_20, ne_18_21, ne_18_22, ne_18_23, ne_18_24, ne_18_25, ne_18_26, ne_18_27, ne_18_28, ne_18_29]
set_option maxRecDepth 20000 in
theorem ex_18d {st mem outs : Nat → Int32} {iq : TQ} {gv wr : Int32} {b n d s : Nat} (hb : b < 256) (hn : n < 256) (hk : kC b = 18) (hde : b / 4 % 4 = d) (hse : b % 4 = s) :
    fX2_execute (st, mem, iq, outs, gv, wr) (nI (wd b n true)) = some ((upd (upd st 9 ((st 9 + 2) &&& 255)) d ((st d + nI n) &&& 255)), mem, iq, outs, gv, wr) := by
  have e1 : fX1_kind (nI (wd b n true)) = 18 := kC_7 hb hn hk rfl
  have e2 := w_d (dd := true) hb hn
  have e3 := w_s (dd := true) hb hn
  have e5 := w_n (dd := true) hb hn
  have e4 : fX1_isDead (nI (wd b n true)) = 1 := w_dead (dd := true) hb hn
  generalize nI (wd b n true) = w at e1 e2 e3 e4 e5
  have hd : b / 4 % 4 < 4 := by omega
  have hs : b % 4 < 4 := by omega
  rw [hde] at e2 hd
  rw [hse] at e3 hs
  have c1 : (nI d).toNatClampNeg = d := cl_n (by omega)
  have c2 : (nI s).toNatClampNeg = s := cl_n (by omega)
  have g1 : ∀ {β : Type} (k : Option β), pIn (nI d) 10 k = k := fun k => pIn_n (by omega) (by omega)
  have g2 : ∀ {β : Type} (k : Option β), pIn (nI s) 10 k = k := fun k => pIn_n (by omega) (by omega)
  have f1 : fX1_bytes 18 = 2 := by decide
  have f2 : fX1_makesFlags 18 = 1 := by decide
  have f3 : fX1_onlyCompares 18 = 0 := by decide
  have u1 : ∀ x : Int32, upd st 9 x d = st d := fun x => pk_un (by omega)
  have u2 : ∀ x : Int32, upd st 9 x s = st s := fun x => pk_un (by omega)
  have u6 : ∀ x : Int32, upd st 9 x 6 = st 6 := fun x => pk_un (by omega)
  simp only [-Int32.reduceToNatClampNeg, pLet_e, pB_e2, fX2_execute_e, fX2_calculate_e, fX2_calculate_b21_e, fX2_calculate_b56_e, fX2_calculate_b89_e, fX2_resultWithCarry_e, makeFlags_c, gG_state_t, sG_state_t, gG_memory_t, sG_memory_t, gG_inputs_t, sG_inputs_t, gG_outputs_t, sG_outputs_t, gG_given_t, sG_given_t, gG_written_t, sG_written_t, j0, j1, j2, j3, j4, j5, j6, j7, j8, j9, j10, j11, j12, p10_0, p10_1, p10_2, p10_3, p10_4, p10_5, p10_6, p10_7, p10_8, p10_9, e1, e2, e3, e4, e5, c1, c2, g1, g2, f1, f2, f3, u1, u2, u6, if_true, if_false, ne_1_0, ne_1_2, ne_18_0, ne_18_1, ne_18_2, ne_18_3, ne_18_4, ne_18_5, ne_18_6, ne_18_7, ne_18_8, ne_18_9, ne_18_10, ne_18_11, ne_18_12, ne_18_13, ne_18_14, ne_18_15, ne_18_16, ne_18_17, ne_18_19, ne_18_20, ne_18_21, ne_18_22, ne_18_23, ne_18_24, ne_18_25, ne_18_26, ne_18_27, ne_18_28, ne_18_29]
set_option maxRecDepth 20000 in
theorem ex_19 {st mem outs : Nat → Int32} {iq : TQ} {gv wr : Int32} {b n d s : Nat} (hb : b < 256) (hn : n < 256) (hk : kC b = 19) (hde : b / 4 % 4 = d) (hse : b % 4 = s) :
    fX2_execute (st, mem, iq, outs, gv, wr) (nI (wd b n false)) = some (mkF (upd st 9 ((st 9 + 2) &&& 255)) (st d - nI n), mem, iq, outs, gv, wr) := by
  have e1 : fX1_kind (nI (wd b n false)) = 19 := kC_7 hb hn hk rfl
  have e2 := w_d (dd := false) hb hn
  have e3 := w_s (dd := false) hb hn
  have e5 := w_n (dd := false) hb hn
  have e4 : fX1_isDead (nI (wd b n false)) = 0 := w_dead (dd := false) hb hn
  generalize nI (wd b n false) = w at e1 e2 e3 e4 e5
  have hd : b / 4 % 4 < 4 := by omega
  have hs : b % 4 < 4 := by omega
  rw [hde] at e2 hd
  rw [hse] at e3 hs
  have c1 : (nI d).toNatClampNeg = d := cl_n (by omega)
  have c2 : (nI s).toNatClampNeg = s := cl_n (by omega)
  have g1 : ∀ {β : Type} (k : Option β), pIn (nI d) 10 k = k := fun k => pIn_n (by omega) (by omega)
  have g2 : ∀ {β : Type} (k : Option β), pIn (nI s) 10 k = k := fun k => pIn_n (by omega) (by omega)
  have f1 : fX1_bytes 19 = 2 := by decide
  have f2 : fX1_makesFlags 19 = 1 := by decide
  have f3 : fX1_onlyCompares 19 = 1 := by decide
  have u1 : ∀ x : Int32, upd st 9 x d = st d := fun x => pk_un (by omega)
  have u2 : ∀ x : Int32, upd st 9 x s = st s := fun x => pk_un (by omega)
  have u6 : ∀ x : Int32, upd st 9 x 6 = st 6 := fun x => pk_un (by omega)
  simp only [-Int32.reduceToNatClampNeg, pLet_e, pB_e2, fX2_execute_e, fX2_calculate_e, fX2_calculate_b21_e, fX2_calculate_b56_e, fX2_calculate_b89_e, fX2_resultWithCarry_e, makeFlags_c, gG_state_t, sG_state_t, gG_memory_t, sG_memory_t, gG_inputs_t, sG_inputs_t, gG_outputs_t, sG_outputs_t, gG_given_t, sG_given_t, gG_written_t, sG_written_t, j0, j1, j2, j3, j4, j5, j6, j7, j8, j9, j10, j11, j12, p10_0, p10_1, p10_2, p10_3, p10_4, p10_5, p10_6, p10_7, p10_8, p10_9, e1, e2, e3, e4, e5, c1, c2, g1, g2, f1, f2, f3, u1, u2, u6, if_true, if_false, ne_1_0, ne_1_2, ne_19_0, ne_19_1, ne_19_2, ne_19_3, ne_19_4, ne_19_5, ne_19_6, ne_19_7, ne_19_8, ne_19_9, ne_19_10, ne_19_11, ne_19_12, ne_19_13, ne_19_14, ne_19_15, ne_19_16, ne_19_17, ne_19_18, ne_19_20, ne_19_21, ne_19_22, ne_19_23, ne_19_24, ne_19_25, ne_19_26, ne_19_27, ne_19_28, ne_19_29]
set_option maxRecDepth 20000 in
theorem ex_19d {st mem outs : Nat → Int32} {iq : TQ} {gv wr : Int32} {b n d s : Nat} (hb : b < 256) (hn : n < 256) (hk : kC b = 19) (hde : b / 4 % 4 = d) (hse : b % 4 = s) :
    fX2_execute (st, mem, iq, outs, gv, wr) (nI (wd b n true)) = some ((upd st 9 ((st 9 + 2) &&& 255)), mem, iq, outs, gv, wr) := by
  have e1 : fX1_kind (nI (wd b n true)) = 19 := kC_7 hb hn hk rfl
  have e2 := w_d (dd := true) hb hn
  have e3 := w_s (dd := true) hb hn
  have e5 := w_n (dd := true) hb hn
  have e4 : fX1_isDead (nI (wd b n true)) = 1 := w_dead (dd := true) hb hn
  generalize nI (wd b n true) = w at e1 e2 e3 e4 e5
  have hd : b / 4 % 4 < 4 := by omega
  have hs : b % 4 < 4 := by omega
  rw [hde] at e2 hd
  rw [hse] at e3 hs
  have c1 : (nI d).toNatClampNeg = d := cl_n (by omega)
  have c2 : (nI s).toNatClampNeg = s := cl_n (by omega)
  have g1 : ∀ {β : Type} (k : Option β), pIn (nI d) 10 k = k := fun k => pIn_n (by omega) (by omega)
  have g2 : ∀ {β : Type} (k : Option β), pIn (nI s) 10 k = k := fun k => pIn_n (by omega) (by omega)
  have f1 : fX1_bytes 19 = 2 := by decide
  have f2 : fX1_makesFlags 19 = 1 := by decide
  have f3 : fX1_onlyCompares 19 = 1 := by decide
  have u1 : ∀ x : Int32, upd st 9 x d = st d := fun x => pk_un (by omega)
  have u2 : ∀ x : Int32, upd st 9 x s = st s := fun x => pk_un (by omega)
  have u6 : ∀ x : Int32, upd st 9 x 6 = st 6 := fun x => pk_un (by omega)
  simp only [-Int32.reduceToNatClampNeg, pLet_e, pB_e2, fX2_execute_e, fX2_calculate_e, fX2_calculate_b21_e, fX2_calculate_b56_e, fX2_calculate_b89_e, fX2_resultWithCarry_e, makeFlags_c, gG_state_t, sG_state_t, gG_memory_t, sG_memory_t, gG_inputs_t, sG_inputs_t, gG_outputs_t, sG_outputs_t, gG_given_t, sG_given_t, gG_written_t, sG_written_t, j0, j1, j2, j3, j4, j5, j6, j7, j8, j9, j10, j11, j12, p10_0, p10_1, p10_2, p10_3, p10_4, p10_5, p10_6, p10_7, p10_8, p10_9, e1, e2, e3, e4, e5, c1, c2, g1, g2, f1, f2, f3, u1, u2, u6, if_true, if_false, ne_1_0, ne_1_2, ne_19_0, ne_19_1, ne_19_2, ne_19_3, ne_19_4, ne_19_5, ne_19_6, ne_19_7, ne_19_8, ne_19_9, ne_19_10, ne_19_11, ne_19_12, ne_19_13, ne_19_14, ne_19_15, ne_19_16, ne_19_17, ne_19_18, ne_19_20, ne_19_21, ne_19_22, ne_19_23, ne_19_24, ne_19_25, ne_19_26, ne_19_27, ne_19_28, ne_19_29]
set_option maxRecDepth 20000 in
theorem ex_20 {st mem outs : Nat → Int32} {iq : TQ} {gv wr : Int32} {b n d s : Nat} (hb : b < 256) (hn : n < 256) (hk : kC b = 20) (hde : b / 4 % 4 = d) (hse : b % 4 = s) :
    fX2_execute (st, mem, iq, outs, gv, wr) (nI (wd b n false)) = some (mkF (upd (upd st 9 ((st 9 + 2) &&& 255)) d ((st d ^^^ nI n) &&& 255)) (st d ^^^ nI n), mem, iq, outs, gv, wr) := by
  have e1 : fX1_kind (nI (wd b n false)) = 20 := kC_7 hb hn hk rfl
  have e2 := w_d (dd := false) hb hn
  have e3 := w_s (dd := false) hb hn
  have e5 := w_n (dd := false) hb hn
  have e4 : fX1_isDead (nI (wd b n false)) = 0 := w_dead (dd := false) hb hn
  generalize nI (wd b n false) = w at e1 e2 e3 e4 e5
  have hd : b / 4 % 4 < 4 := by omega
  have hs : b % 4 < 4 := by omega
  rw [hde] at e2 hd
  rw [hse] at e3 hs
  have c1 : (nI d).toNatClampNeg = d := cl_n (by omega)
  have c2 : (nI s).toNatClampNeg = s := cl_n (by omega)
  have g1 : ∀ {β : Type} (k : Option β), pIn (nI d) 10 k = k := fun k => pIn_n (by omega) (by omega)
  have g2 : ∀ {β : Type} (k : Option β), pIn (nI s) 10 k = k := fun k => pIn_n (by omega) (by omega)
  have f1 : fX1_bytes 20 = 2 := by decide
  have f2 : fX1_makesFlags 20 = 1 := by decide
  have f3 : fX1_onlyCompares 20 = 0 := by decide
  have u1 : ∀ x : Int32, upd st 9 x d = st d := fun x => pk_un (by omega)
  have u2 : ∀ x : Int32, upd st 9 x s = st s := fun x => pk_un (by omega)
  have u6 : ∀ x : Int32, upd st 9 x 6 = st 6 := fun x => pk_un (by omega)
  simp only [-Int32.reduceToNatClampNeg, pLet_e, pB_e2, fX2_execute_e, fX2_calculate_e, fX2_calculate_b21_e, fX2_calculate_b56_e, fX2_calculate_b89_e, fX2_resultWithCarry_e, makeFlags_c, gG_state_t, sG_state_t, gG_memory_t, sG_memory_t, gG_inputs_t, sG_inputs_t, gG_outputs_t, sG_outputs_t, gG_given_t, sG_given_t, gG_written_t, sG_written_t, j0, j1, j2, j3, j4, j5, j6, j7, j8, j9, j10, j11, j12, p10_0, p10_1, p10_2, p10_3, p10_4, p10_5, p10_6, p10_7, p10_8, p10_9, e1, e2, e3, e4, e5, c1, c2, g1, g2, f1, f2, f3, u1, u2, u6, if_true, if_false, ne_1_0, ne_1_2, ne_20_0, ne_20_1, ne_20_2, ne_20_3, ne_20_4, ne_20_5, ne_20_6, ne_20_7, ne_20_8, ne_20_9, ne_20_10, ne_20_11, ne_20_12, ne_20_13, ne_20_14, ne_20_15, ne_20_16, ne_20_17, ne_20_18, ne_20_19, ne_20_21, ne_20_22, ne_20_23, ne_20_24, ne_20_25, ne_20_26, ne_20_27, ne_20_28, ne_20_29]
set_option maxRecDepth 20000 in
theorem ex_20d {st mem outs : Nat → Int32} {iq : TQ} {gv wr : Int32} {b n d s : Nat} (hb : b < 256) (hn : n < 256) (hk : kC b = 20) (hde : b / 4 % 4 = d) (hse : b % 4 = s) :
    fX2_execute (st, mem, iq, outs, gv, wr) (nI (wd b n true)) = some ((upd (upd st 9 ((st 9 + 2) &&& 255)) d ((st d ^^^ nI n) &&& 255)), mem, iq, outs, gv, wr) := by
  have e1 : fX1_kind (nI (wd b n true)) = 20 := kC_7 hb hn hk rfl
  have e2 := w_d (dd := true) hb hn
  have e3 := w_s (dd := true) hb hn
  have e5 := w_n (dd := true) hb hn
  have e4 : fX1_isDead (nI (wd b n true)) = 1 := w_dead (dd := true) hb hn
  generalize nI (wd b n true) = w at e1 e2 e3 e4 e5
  have hd : b / 4 % 4 < 4 := by omega
  have hs : b % 4 < 4 := by omega
  rw [hde] at e2 hd
  rw [hse] at e3 hs
  have c1 : (nI d).toNatClampNeg = d := cl_n (by omega)
  have c2 : (nI s).toNatClampNeg = s := cl_n (by omega)
  have g1 : ∀ {β : Type} (k : Option β), pIn (nI d) 10 k = k := fun k => pIn_n (by omega) (by omega)
  have g2 : ∀ {β : Type} (k : Option β), pIn (nI s) 10 k = k := fun k => pIn_n (by omega) (by omega)
  have f1 : fX1_bytes 20 = 2 := by decide
  have f2 : fX1_makesFlags 20 = 1 := by decide
  have f3 : fX1_onlyCompares 20 = 0 := by decide
  have u1 : ∀ x : Int32, upd st 9 x d = st d := fun x => pk_un (by omega)
  have u2 : ∀ x : Int32, upd st 9 x s = st s := fun x => pk_un (by omega)
  have u6 : ∀ x : Int32, upd st 9 x 6 = st 6 := fun x => pk_un (by omega)
  simp only [-Int32.reduceToNatClampNeg, pLet_e, pB_e2, fX2_execute_e, fX2_calculate_e, fX2_calculate_b21_e, fX2_calculate_b56_e, fX2_calculate_b89_e, fX2_resultWithCarry_e, makeFlags_c, gG_state_t, sG_state_t, gG_memory_t, sG_memory_t, gG_inputs_t, sG_inputs_t, gG_outputs_t, sG_outputs_t, gG_given_t, sG_given_t, gG_written_t, sG_written_t, j0, j1, j2, j3, j4, j5, j6, j7, j8, j9, j10, j11, j12, p10_0, p10_1, p10_2, p10_3, p10_4, p10_5, p10_6, p10_7, p10_8, p10_9, e1, e2, e3, e4, e5, c1, c2, g1, g2, f1, f2, f3, u1, u2, u6, if_true, if_false, ne_1_0, ne_1_2, ne_20_0, ne_20_1, ne_20_2, ne_20_3, ne_20_4, ne_20_5, ne_20_6, ne_20_7, ne_20_8, ne_20_9, ne_20_10, ne_20_11, ne_20_12, ne_20_13, ne_20_14, ne_20_15, ne_20_16, ne_20_17, ne_20_18, ne_20_19, ne_20_21, ne_20_22, ne_20_23, ne_20_24, ne_20_25, ne_20_26, ne_20_27, ne_20_28, ne_20_29]

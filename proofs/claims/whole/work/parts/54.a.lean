set_option maxRecDepth 20000 in
theorem ex_1 {st mem outs : Nat → Int32} {iq : TQ} {gv wr : Int32} {b n d s : Nat} (hb : b < 256) (hn : n < 256) (hk : kC b = 1) (hde : b / 4 % 4 = d) (hse : b % 4 = s) :
    fX2_execute (st, mem, iq, outs, gv, wr) (nI (wd b n false)) = some ((upd st 9 ((st 9 + 1) &&& 255)), mem, iq, outs, gv, wr) := by
  have e1 : fX1_kind (nI (wd b n false)) = 1 := kC_7 hb hn hk rfl
  have e2 := w_d (dd := false) hb hn
  have e3 := w_s (dd := false) hb hn
  have e5 := w_n (dd := false) hb hn
  have e6 := w_w (dd := false) hb hn
  generalize nI (wd b n false) = w at e1 e2 e3 e5 e6
  have hd : b / 4 % 4 < 4 := by omega
  have hs : b % 4 < 4 := by omega
  rw [hde] at e2 hd
  rw [hse] at e3 hs
  have c1 : (nI d).toNatClampNeg = d := cl_n (by omega)
  have c2 : (nI s).toNatClampNeg = s := cl_n (by omega)
  have g1 : ∀ {β : Type} (k : Option β), pIn (nI d) 10 k = k := fun k => pIn_n (by omega) (by omega)
  have g2 : ∀ {β : Type} (k : Option β), pIn (nI s) 10 k = k := fun k => pIn_n (by omega) (by omega)
  have f1 : fX1_bytes 1 = 1 := by decide
  have f2 : fX1_makesFlags 1 = 0 := by decide
  have f3 : fX1_endsBlock 1 = 1 := by decide
  have u1 : ∀ x : Int32, upd st 9 x d = st d := fun x => pk_un (by omega)
  have u2 : ∀ x : Int32, upd st 9 x s = st s := fun x => pk_un (by omega)
  simp only [-Int32.reduceToNatClampNeg, pLet_e, pB_e2, fX2_execute_e, fX2_move_e, fX2_steer_e, fX2_push_e, fX2_pop_e, fX2_write_e, fX2_give_e, fX2_give_b19_e, fX2_jumpIf_e, fX2_jumpIf_b21_e, fX2_countDown_e, gG_state_t, sG_state_t, gG_memory_t, sG_memory_t, gG_inputs_t, sG_inputs_t, gG_outputs_t, sG_outputs_t, gG_given_t, sG_given_t, gG_written_t, sG_written_t, j0, j1, j2, j3, j4, j5, j6, j7, j8, j9, j10, j11, j12, p10_0, p10_1, p10_2, p10_3, p10_4, p10_5, p10_6, p10_7, p10_8, p10_9, e1, e2, e3, e5, e6, c1, c2, g1, g2, f1, f2, f3, u1, u2, if_true, if_false, ne_1_0, ne_1_2, ne_1_3, ne_1_4, ne_1_5, ne_1_6, ne_1_7, ne_1_8, ne_1_9, ne_1_10, ne_1_11, ne_1_12, ne_1_13, ne_1_14, ne_1_15, ne_1_16, ne_1_17, ne_1_18, ne_1_19, ne_1_20, ne_1_21, ne_1_22, ne_1_23, ne_1_24, ne_1_25, ne_1_26, ne_1_27, ne_1_28, ne_1_29]
set_option maxRecDepth 20000 in
theorem ex_4 {st mem outs : Nat → Int32} {iq : TQ} {gv wr : Int32} {b n d s : Nat} (hb : b < 256) (hn : n < 256) (hk : kC b = 4) (hde : b / 4 % 4 = d) (hse : b % 4 = s) :
    fX2_execute (st, mem, iq, outs, gv, wr) (nI (wd b n false)) = some (upd (upd st 9 ((st 9 + 1) &&& 255)) 8 1, mem, iq, outs, gv, wr) := by
  have e1 : fX1_kind (nI (wd b n false)) = 4 := kC_7 hb hn hk rfl
  have e2 := w_d (dd := false) hb hn
  have e3 := w_s (dd := false) hb hn
  have e5 := w_n (dd := false) hb hn
  have e6 := w_w (dd := false) hb hn
  generalize nI (wd b n false) = w at e1 e2 e3 e5 e6
  have hd : b / 4 % 4 < 4 := by omega
  have hs : b % 4 < 4 := by omega
  rw [hde] at e2 hd
  rw [hse] at e3 hs
  have c1 : (nI d).toNatClampNeg = d := cl_n (by omega)
  have c2 : (nI s).toNatClampNeg = s := cl_n (by omega)
  have g1 : ∀ {β : Type} (k : Option β), pIn (nI d) 10 k = k := fun k => pIn_n (by omega) (by omega)
  have g2 : ∀ {β : Type} (k : Option β), pIn (nI s) 10 k = k := fun k => pIn_n (by omega) (by omega)
  have f1 : fX1_bytes 4 = 1 := by decide
  have f2 : fX1_makesFlags 4 = 0 := by decide
  have f3 : fX1_endsBlock 4 = 1 := by decide
  have u1 : ∀ x : Int32, upd st 9 x d = st d := fun x => pk_un (by omega)
  have u2 : ∀ x : Int32, upd st 9 x s = st s := fun x => pk_un (by omega)
  simp only [-Int32.reduceToNatClampNeg, pLet_e, pB_e2, fX2_execute_e, fX2_move_e, fX2_steer_e, fX2_push_e, fX2_pop_e, fX2_write_e, fX2_give_e, fX2_give_b19_e, fX2_jumpIf_e, fX2_jumpIf_b21_e, fX2_countDown_e, gG_state_t, sG_state_t, gG_memory_t, sG_memory_t, gG_inputs_t, sG_inputs_t, gG_outputs_t, sG_outputs_t, gG_given_t, sG_given_t, gG_written_t, sG_written_t, j0, j1, j2, j3, j4, j5, j6, j7, j8, j9, j10, j11, j12, p10_0, p10_1, p10_2, p10_3, p10_4, p10_5, p10_6, p10_7, p10_8, p10_9, e1, e2, e3, e5, e6, c1, c2, g1, g2, f1, f2, f3, u1, u2, if_true, if_false, ne_4_0, ne_4_1, ne_4_2, ne_4_3, ne_4_5, ne_4_6, ne_4_7, ne_4_8, ne_4_9, ne_4_10, ne_4_11, ne_4_12, ne_4_13, ne_4_14, ne_4_15, ne_4_16, ne_4_17, ne_4_18, ne_4_19, ne_4_20, ne_4_21, ne_4_22, ne_4_23, ne_4_24, ne_4_25, ne_4_26, ne_4_27, ne_4_28, ne_4_29, ne_1_0]
set_option maxRecDepth 20000 in
theorem ex_5 {st mem outs : Nat → Int32} {iq : TQ} {gv wr : Int32} {b n d s : Nat} (hb : b < 256) (hn : n < 256) (hk : kC b = 5) (hde : b / 4 % 4 = d) (hse : b % 4 = s) :
    fX2_execute (st, mem, iq, outs, gv, wr) (nI (wd b n false)) = some (upd (upd st 9 ((st 9 + 1) &&& 255)) 8 0, mem, iq, outs, gv, wr) := by
  have e1 : fX1_kind (nI (wd b n false)) = 5 := kC_7 hb hn hk rfl
  have e2 := w_d (dd := false) hb hn
  have e3 := w_s (dd := false) hb hn
  have e5 := w_n (dd := false) hb hn
  have e6 := w_w (dd := false) hb hn
  generalize nI (wd b n false) = w at e1 e2 e3 e5 e6
  have hd : b / 4 % 4 < 4 := by omega
  have hs : b % 4 < 4 := by omega
  rw [hde] at e2 hd
  rw [hse] at e3 hs
  have c1 : (nI d).toNatClampNeg = d := cl_n (by omega)
  have c2 : (nI s).toNatClampNeg = s := cl_n (by omega)
  have g1 : ∀ {β : Type} (k : Option β), pIn (nI d) 10 k = k := fun k => pIn_n (by omega) (by omega)
  have g2 : ∀ {β : Type} (k : Option β), pIn (nI s) 10 k = k := fun k => pIn_n (by omega) (by omega)
  have f1 : fX1_bytes 5 = 1 := by decide
  have f2 : fX1_makesFlags 5 = 0 := by decide
  have f3 : fX1_endsBlock 5 = 0 := by decide
  have u1 : ∀ x : Int32, upd st 9 x d = st d := fun x => pk_un (by omega)
  have u2 : ∀ x : Int32, upd st 9 x s = st s := fun x => pk_un (by omega)
  simp only [-Int32.reduceToNatClampNeg, pLet_e, pB_e2, fX2_execute_e, fX2_move_e, fX2_steer_e, fX2_push_e, fX2_pop_e, fX2_write_e, fX2_give_e, fX2_give_b19_e, fX2_jumpIf_e, fX2_jumpIf_b21_e, fX2_countDown_e, gG_state_t, sG_state_t, gG_memory_t, sG_memory_t, gG_inputs_t, sG_inputs_t, gG_outputs_t, sG_outputs_t, gG_given_t, sG_given_t, gG_written_t, sG_written_t, j0, j1, j2, j3, j4, j5, j6, j7, j8, j9, j10, j11, j12, p10_0, p10_1, p10_2, p10_3, p10_4, p10_5, p10_6, p10_7, p10_8, p10_9, e1, e2, e3, e5, e6, c1, c2, g1, g2, f1, f2, f3, u1, u2, if_true, if_false, ne_5_0, ne_5_1, ne_5_2, ne_5_3, ne_5_4, ne_5_6, ne_5_7, ne_5_8, ne_5_9, ne_5_10, ne_5_11, ne_5_12, ne_5_13, ne_5_14, ne_5_15, ne_5_16, ne_5_17, ne_5_18, ne_5_19, ne_5_20, ne_5_21, ne_5_22, ne_5_23, ne_5_24, ne_5_25, ne_5_26, ne_5_27, ne_5_28, ne_5_29, ne_1_0]
set_option maxRecDepth 20000 in
theorem ex_6 {st mem outs : Nat → Int32} {iq : TQ} {gv wr : Int32} {b n d s : Nat} (hb : b < 256) (hn : n < 256) (hk : kC b = 6) (hde : b / 4 % 4 = d) (hse : b % 4 = s) :
    fX2_execute (st, mem, iq, outs, gv, wr) (nI (wd b n false)) = some (upd (upd st 9 ((st 9 + 1) &&& 255)) d (st s), mem, iq, outs, gv, wr) := by
  have e1 : fX1_kind (nI (wd b n false)) = 6 := kC_7 hb hn hk rfl
  have e2 := w_d (dd := false) hb hn
  have e3 := w_s (dd := false) hb hn
  have e5 := w_n (dd := false) hb hn
  have e6 := w_w (dd := false) hb hn
  generalize nI (wd b n false) = w at e1 e2 e3 e5 e6
  have hd : b / 4 % 4 < 4 := by omega
  have hs : b % 4 < 4 := by omega
  rw [hde] at e2 hd
  rw [hse] at e3 hs
  have c1 : (nI d).toNatClampNeg = d := cl_n (by omega)
  have c2 : (nI s).toNatClampNeg = s := cl_n (by omega)
  have g1 : ∀ {β : Type} (k : Option β), pIn (nI d) 10 k = k := fun k => pIn_n (by omega) (by omega)
  have g2 : ∀ {β : Type} (k : Option β), pIn (nI s) 10 k = k := fun k => pIn_n (by omega) (by omega)
  have f1 : fX1_bytes 6 = 1 := by decide
  have f2 : fX1_makesFlags 6 = 0 := by decide
  have f3 : fX1_endsBlock 6 = 0 := by decide
  have u1 : ∀ x : Int32, upd st 9 x d = st d := fun x => pk_un (by omega)
  have u2 : ∀ x : Int32, upd st 9 x s = st s := fun x => pk_un (by omega)
  simp only [-Int32.reduceToNatClampNeg, pLet_e, pB_e2, fX2_execute_e, fX2_move_e, fX2_steer_e, fX2_push_e, fX2_pop_e, fX2_write_e, fX2_give_e, fX2_give_b19_e, fX2_jumpIf_e, fX2_jumpIf_b21_e, fX2_countDown_e, gG_state_t, sG_state_t, gG_memory_t, sG_memory_t, gG_inputs_t, sG_inputs_t, gG_outputs_t, sG_outputs_t, gG_given_t, sG_given_t, gG_written_t, sG_written_t, j0, j1, j2, j3, j4, j5, j6, j7, j8, j9, j10, j11, j12, p10_0, p10_1, p10_2, p10_3, p10_4, p10_5, p10_6, p10_7, p10_8, p10_9, e1, e2, e3, e5, e6, c1, c2, g1, g2, f1, f2, f3, u1, u2, if_true, if_false, ne_6_0, ne_6_1, ne_6_2, ne_6_3, ne_6_4, ne_6_5, ne_6_7, ne_6_8, ne_6_9, ne_6_10, ne_6_11, ne_6_12, ne_6_13, ne_6_14, ne_6_15, ne_6_16, ne_6_17, ne_6_18, ne_6_19, ne_6_20, ne_6_21, ne_6_22, ne_6_23, ne_6_24, ne_6_25, ne_6_26, ne_6_27, ne_6_28, ne_6_29, ne_1_0]
set_option maxRecDepth 20000 in
theorem ex_17 {st mem outs : Nat → Int32} {iq : TQ} {gv wr : Int32} {b n d s : Nat} (hb : b < 256) (hn : n < 256) (hk : kC b = 17) (hde : b / 4 % 4 = d) (hse : b % 4 = s) :
    fX2_execute (st, mem, iq, outs, gv, wr) (nI (wd b n false)) = some (upd (upd st 9 ((st 9 + 2) &&& 255)) d (nI n), mem, iq, outs, gv, wr) := by
  have e1 : fX1_kind (nI (wd b n false)) = 17 := kC_7 hb hn hk rfl
  have e2 := w_d (dd := false) hb hn
  have e3 := w_s (dd := false) hb hn
  have e5 := w_n (dd := false) hb hn
  have e6 := w_w (dd := false) hb hn
  generalize nI (wd b n false) = w at e1 e2 e3 e5 e6
  have hd : b / 4 % 4 < 4 := by omega
  have hs : b % 4 < 4 := by omega
  rw [hde] at e2 hd
  rw [hse] at e3 hs
  have c1 : (nI d).toNatClampNeg = d := cl_n (by omega)
  have c2 : (nI s).toNatClampNeg = s := cl_n (by omega)
  have g1 : ∀ {β : Type} (k : Option β), pIn (nI d) 10 k = k := fun k => pIn_n (by omega) (by omega)
  have g2 : ∀ {β : Type} (k : Option β), pIn (nI s) 10 k = k := fun k => pIn_n (by omega) (by omega)
  have f1 : fX1_bytes 17 = 2 := by decide
  have f2 : fX1_makesFlags 17 = 0 := by decide
  have f3 : fX1_endsBlock 17 = 0 := by decide
  have u1 : ∀ x : Int32, upd st 9 x d = st d := fun x => pk_un (by omega)
  have u2 : ∀ x : Int32, upd st 9 x s = st s := fun x => pk_un (by omega)
  simp only [-Int32.reduceToNatClampNeg, pLet_e, pB_e2, fX2_execute_e, fX2_move_e, fX2_steer_e, fX2_push_e, fX2_pop_e, fX2_write_e, fX2_give_e, fX2_give_b19_e, fX2_jumpIf_e, fX2_jumpIf_b21_e, fX2_countDown_e, gG_state_t, sG_state_t, gG_memory_t, sG_memory_t, gG_inputs_t, sG_inputs_t, gG_outputs_t, sG_outputs_t, gG_given_t, sG_given_t, gG_written_t, sG_written_t, j0, j1, j2, j3, j4, j5, j6, j7, j8, j9, j10, j11, j12, p10_0, p10_1, p10_2, p10_3, p10_4, p10_5, p10_6, p10_7, p10_8, p10_9, e1, e2, e3, e5, e6, c1, c2, g1, g2, f1, f2, f3, u1, u2, if_true, if_false, ne_17_0, ne_17_1, ne_17_2, ne_17_3, ne_17_4, ne_17_5, ne_17_6, ne_17_7, ne_17_8, ne_17_9, ne_17_10, ne_17_11, ne_17_12, ne_17_13, ne_17_14, ne_17_15, ne_17_16, ne_17_18, ne_17_19, ne_17_20, ne_17_21, ne_17_22, ne_17_23, ne_17_24, ne_17_25, ne_17_26, ne_17_27, ne_17_28, ne_17_29, ne_1_0]
set_option maxRecDepth 20000 in
theorem ex_21 {st mem outs : Nat → Int32} {iq : TQ} {gv wr : Int32} {b n d s : Nat} (hb : b < 256) (hn : n < 256) (hk : kC b = 21) (hde : b / 4 % 4 = d) (hse : b % 4 = s) {ad : Nat} (had : ad < 256) (hae : (st s + nI n) &&& 255 = nI ad) :
    fX2_execute (st, mem, iq, outs, gv, wr) (nI (wd b n false)) = some (upd (upd st 9 ((st 9 + 2) &&& 255)) d (mem ad), mem, iq, outs, gv, wr) := by
  have e1 : fX1_kind (nI (wd b n false)) = 21 := kC_7 hb hn hk rfl
  have e2 := w_d (dd := false) hb hn
  have e3 := w_s (dd := false) hb hn
  have e5 := w_n (dd := false) hb hn
  have e6 := w_w (dd := false) hb hn
  generalize nI (wd b n false) = w at e1 e2 e3 e5 e6
  have hd : b / 4 % 4 < 4 := by omega
  have hs : b % 4 < 4 := by omega
  rw [hde] at e2 hd
  rw [hse] at e3 hs
  have c1 : (nI d).toNatClampNeg = d := cl_n (by omega)
  have c2 : (nI s).toNatClampNeg = s := cl_n (by omega)
  have g1 : ∀ {β : Type} (k : Option β), pIn (nI d) 10 k = k := fun k => pIn_n (by omega) (by omega)
  have g2 : ∀ {β : Type} (k : Option β), pIn (nI s) 10 k = k := fun k => pIn_n (by omega) (by omega)
  have f1 : fX1_bytes 21 = 2 := by decide
  have f2 : fX1_makesFlags 21 = 0 := by decide
  have f3 : fX1_endsBlock 21 = 0 := by decide
  have u1 : ∀ x : Int32, upd st 9 x d = st d := fun x => pk_un (by omega)
  have u2 : ∀ x : Int32, upd st 9 x s = st s := fun x => pk_un (by omega)
  have g3 : ∀ {β : Type} (k : Option β), pIn (nI ad) 256 k = k := fun k => pIn_n (by omega) (by omega)
  have c3 : (nI ad).toNatClampNeg = ad := cl_n (by omega)
  simp only [-Int32.reduceToNatClampNeg, pLet_e, pB_e2, fX2_execute_e, fX2_move_e, fX2_steer_e, fX2_push_e, fX2_pop_e, fX2_write_e, fX2_give_e, fX2_give_b19_e, fX2_jumpIf_e, fX2_jumpIf_b21_e, fX2_countDown_e, gG_state_t, sG_state_t, gG_memory_t, sG_memory_t, gG_inputs_t, sG_inputs_t, gG_outputs_t, sG_outputs_t, gG_given_t, sG_given_t, gG_written_t, sG_written_t, j0, j1, j2, j3, j4, j5, j6, j7, j8, j9, j10, j11, j12, p10_0, p10_1, p10_2, p10_3, p10_4, p10_5, p10_6, p10_7, p10_8, p10_9, e1, e2, e3, e5, e6, c1, c2, g1, g2, f1, f2, f3, u1, u2, if_true, if_false, ne_21_0, ne_21_1, ne_21_2, ne_21_3, ne_21_4, ne_21_5, ne_21_6, ne_21_7, ne_21_8, ne_21_9, ne_21_10, ne_21_11, ne_21_12, ne_21_13, ne_21_14, ne_21_15, ne_21_16, ne_21_17, ne_21_18, ne_21_19, ne_21_20, ne_21_22, ne_21_23, ne_21_24, ne_21_25, ne_21_26, ne_21_27, ne_21_28, ne_21_29, ne_1_0, hae, g3, c3]
set_option maxRecDepth 20000 in
theorem ex_22 {st mem outs : Nat → Int32} {iq : TQ} {gv wr : Int32} {b n d s : Nat} (hb : b < 256) (hn : n < 256) (hk : kC b = 22) (hde : b / 4 % 4 = d) (hse : b % 4 = s) {ad : Nat} (had : ad < 256) (hae : (st s + nI n) &&& 255 = nI ad) :
    fX2_execute (st, mem, iq, outs, gv, wr) (nI (wd b n false)) = some ((upd st 9 ((st 9 + 2) &&& 255)), upd mem ad (st d), iq, outs, gv, nI ad) := by
  have e1 : fX1_kind (nI (wd b n false)) = 22 := kC_7 hb hn hk rfl
  have e2 := w_d (dd := false) hb hn
  have e3 := w_s (dd := false) hb hn
  have e5 := w_n (dd := false) hb hn
  have e6 := w_w (dd := false) hb hn
  generalize nI (wd b n false) = w at e1 e2 e3 e5 e6
  have hd : b / 4 % 4 < 4 := by omega
  have hs : b % 4 < 4 := by omega
  rw [hde] at e2 hd
  rw [hse] at e3 hs
  have c1 : (nI d).toNatClampNeg = d := cl_n (by omega)
  have c2 : (nI s).toNatClampNeg = s := cl_n (by omega)
  have g1 : ∀ {β : Type} (k : Option β), pIn (nI d) 10 k = k := fun k => pIn_n (by omega) (by omega)
  have g2 : ∀ {β : Type} (k : Option β), pIn (nI s) 10 k = k := fun k => pIn_n (by omega) (by omega)
  have f1 : fX1_bytes 22 = 2 := by decide
  have f2 : fX1_makesFlags 22 = 0 := by decide
  have f3 : fX1_endsBlock 22 = 0 := by decide
  have u1 : ∀ x : Int32, upd st 9 x d = st d := fun x => pk_un (by omega)
  have u2 : ∀ x : Int32, upd st 9 x s = st s := fun x => pk_un (by omega)
  have g3 : ∀ {β : Type} (k : Option β), pIn (nI ad) 256 k = k := fun k => pIn_n (by omega) (by omega)
  have c3 : (nI ad).toNatClampNeg = ad := cl_n (by omega)
  simp only [-Int32.reduceToNatClampNeg, pLet_e, pB_e2, fX2_execute_e, fX2_move_e, fX2_steer_e, fX2_push_e, fX2_pop_e, fX2_write_e, fX2_give_e, fX2_give_b19_e, fX2_jumpIf_e, fX2_jumpIf_b21_e, fX2_countDown_e, gG_state_t, sG_state_t, gG_memory_t, sG_memory_t, gG_inputs_t, sG_inputs_t, gG_outputs_t, sG_outputs_t, gG_given_t, sG_given_t, gG_written_t, sG_written_t, j0, j1, j2, j3, j4, j5, j6, j7, j8, j9, j10, j11, j12, p10_0, p10_1, p10_2, p10_3, p10_4, p10_5, p10_6, p10_7, p10_8, p10_9, e1, e2, e3, e5, e6, c1, c2, g1, g2, f1, f2, f3, u1, u2, if_true, if_false, ne_22_0, ne_22_1, ne_22_2, ne_22_3, ne_22_4, ne_22_5, ne_22_6, ne_22_7, ne_22_8, ne_22_9, ne_22_10, ne_22_11, ne_22_12, ne_22_13, ne_22_14, ne_22_15, ne_22_16, ne_22_17, ne_22_18, ne_22_19, ne_22_20, ne_22_21, ne_22_23, ne_22_24, ne_22_25, ne_22_26, ne_22_27, ne_22_28, ne_22_29, ne_1_0, hae, g3, c3]
set_option maxRecDepth 20000 in
theorem ex_23 {st mem outs : Nat → Int32} {iq : TQ} {gv wr : Int32} {b n d s : Nat} (hb : b < 256) (hn : n < 256) (hk : kC b = 23) (hde : b / 4 % 4 = d) (hse : b % 4 = s) :
    fX2_execute (st, mem, iq, outs, gv, wr) (nI (wd b n false)) = some (upd (upd st 9 ((st 9 + 2) &&& 255)) 9 (nI n), mem, iq, outs, gv, wr) := by
  have e1 : fX1_kind (nI (wd b n false)) = 23 := kC_7 hb hn hk rfl
  have e2 := w_d (dd := false) hb hn
  have e3 := w_s (dd := false) hb hn
  have e5 := w_n (dd := false) hb hn
  have e6 := w_w (dd := false) hb hn
  generalize nI (wd b n false) = w at e1 e2 e3 e5 e6
  have hd : b / 4 % 4 < 4 := by omega
  have hs : b % 4 < 4 := by omega
  rw [hde] at e2 hd
  rw [hse] at e3 hs
  have c1 : (nI d).toNatClampNeg = d := cl_n (by omega)
  have c2 : (nI s).toNatClampNeg = s := cl_n (by omega)
  have g1 : ∀ {β : Type} (k : Option β), pIn (nI d) 10 k = k := fun k => pIn_n (by omega) (by omega)
  have g2 : ∀ {β : Type} (k : Option β), pIn (nI s) 10 k = k := fun k => pIn_n (by omega) (by omega)
  have f1 : fX1_bytes 23 = 2 := by decide
  have f2 : fX1_makesFlags 23 = 0 := by decide
  have f3 : fX1_endsBlock 23 = 1 := by decide
  have u1 : ∀ x : Int32, upd st 9 x d = st d := fun x => pk_un (by omega)
  have u2 : ∀ x : Int32, upd st 9 x s = st s := fun x => pk_un (by omega)
  simp only [-Int32.reduceToNatClampNeg, pLet_e, pB_e2, fX2_execute_e, fX2_move_e, fX2_steer_e, fX2_push_e, fX2_pop_e, fX2_write_e, fX2_give_e, fX2_give_b19_e, fX2_jumpIf_e, fX2_jumpIf_b21_e, fX2_countDown_e, gG_state_t, sG_state_t, gG_memory_t, sG_memory_t, gG_inputs_t, sG_inputs_t, gG_outputs_t, sG_outputs_t, gG_given_t, sG_given_t, gG_written_t, sG_written_t, j0, j1, j2, j3, j4, j5, j6, j7, j8, j9, j10, j11, j12, p10_0, p10_1, p10_2, p10_3, p10_4, p10_5, p10_6, p10_7, p10_8, p10_9, e1, e2, e3, e5, e6, c1, c2, g1, g2, f1, f2, f3, u1, u2, if_true, if_false, ne_23_0, ne_23_1, ne_23_2, ne_23_3, ne_23_4, ne_23_5, ne_23_6, ne_23_7, ne_23_8, ne_23_9, ne_23_10, ne_23_11, ne_23_12, ne_23_13, ne_23_14, ne_23_15, ne_23_16, ne_23_17, ne_23_18, ne_23_19, ne_23_20, ne_23_21, ne_23_22, ne_23_24, ne_23_25, ne_23_26, ne_23_27, ne_23_28, ne_23_29, ne_1_0]

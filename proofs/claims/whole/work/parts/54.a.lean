set_option maxRecDepth 20000 in
theorem ex_1 {st mem outs : Nat → Int32} {iq : TQ} {gv wr : Int32} {b n d s : Nat} (hb : b < 256) (hn : n < 256) (hk : kC b = 1) (hde : b / 4 % 4 = d) (hse : b % 4 = s) :
    fX2_execute (st, mem, iq, outs, gv, wr) (nI (wd b n false)) = some ((upd st 9 ((st 9 + 1) &&& 255)), mem, iq, outs, gv, wr) := by
  have e1 : fX1_kind (nI (wd b n false)) = 1 := kC_7 hb hn hk rfl
  have e2 := w_d (dd := false) hb hn
  have e3 := w_s (dd := false) hb hn
  have e5 := w_n (dd := false) hb hn
  have e6 := w_w (dd := false) hb hn
  generalize nI (wd b n false) = w at e1 e2 e3 e5 e6
  have hd : b / 4 % 4 < 4 := by omega
  have hs : b % 4 < 4 := by omega
  rw [hde] at e2 hd
  rw [hse] at e3 hs
  have c1 : (nI d).toNatClampNeg = d := cl_n (by omega)
  have c2 : (nI s).toNatClampNeg = s := cl_n (by omega)
  have g1 : ∀ {β : Type} (k : Option β), pIn (nI d) 10 k = k := fun k => pIn_n (by omega) (by omega)
  have g2 : ∀ {β : Type} (k : Option β), pIn (nI s) 10 k = k := fun k => pIn_n (by omega) (by omega)
  have f1 : fX1_bytes 1 = 1 := by decide
  have f2 : fX1_makesFlags 1 = 0 := by decide
  have f3 : fX1_endsBlock 1 = 1 := by decide
  have u1 : ∀ x : Int32, upd st 9 x d = st d := fun x => pk_un (by omega)
  have u2 : ∀ x : Int32, upd st 9 x s = st s := fun x => pk_un (by omega)
  simp only [-Int32.reduceToNatClampNeg, pLet_e, pB_e2, fX2_execute_e, fX2_move_e, fX2_move_b187_e, fX2_steer_e, fX2_push_e, fX2_pop_e, fX2_write_e, fX2_give_e, fX2_give_b26_e, fX2_jumpIf_e, fX2_jumpIf_b21_e, fX2_countDown_e, gG_state_t, sG_state_t, gG_memory_t, sG_memory_t, gG_inputs_t, sG_inputs_t, gG_outputs_t, sG_outputs_t, gG_given_t, sG_given_t, gG_written_t, sG_written_t, j0, j1, j2, j3, j4, j5, j6, j7, j8, j9, j10, j11, j12, p10_0, p10_1, p10_2, p10_3, p10_4, p10_5, p10_6, p10_7, p10_8, p10_9, e1, e2, e3, e5, e6, c1, c2, g1, g2, f1, f2, f3, u1, u2, if_true, if_false, ne_1_0, ne_1_2, ne_1_3, ne_1_4, ne_1_5, ne_1_6, ne_1_7, ne_1_8, ne_1_9, ne_1_10, ne_1_11, ne_1_12, ne_1_13, ne_1_14, ne_1_15, ne_1_16, ne_1_17, ne_1_18, ne_1_19, ne_1_20, ne_1_21, ne_1_22, ne_1_23, ne_1_24, ne_1_25, ne_1_26, ne_1_27, ne_1_28, ne_1_29]
set_option maxRecDepth 20000 in
theorem ex_4 {st mem outs : Nat → Int32} {iq : TQ} {gv wr : Int32} {b n d s : Nat} (hb : b < 256) (hn : n < 256) (hk : kC b = 4) (hde : b / 4 % 4 = d) (hse : b % 4 = s) :
    fX2_execute (st, mem, iq, outs, gv, wr) (nI (wd b n false)) = some (upd (upd st 9 ((st 9 + 1) &&& 255)) 8 1, mem, iq, outs, gv, wr) := by
  have e1 : fX1_kind (nI (wd b n false)) = 4 := kC_7 hb hn hk rfl
  have e2 := w_d (dd := false) hb hn
  have e3 := w_s (dd := false) hb hn
  have e5 := w_n (dd := false) hb hn
  have e6 := w_w (dd := false) hb hn
  generalize nI (wd b n false) = w at e1 e2 e3 e5 e6
  have hd : b / 4 % 4 < 4 := by omega
  have hs : b % 4 < 4 := by omega
  rw [hde] at e2 hd
  rw [hse] at e3 hs
  have c1 : (nI d).toNatClampNeg = d := cl_n (by omega)
  have c2 : (nI s).toNatClampNeg = s := cl_n (by omega)
  have g1 : ∀ {β : Type} (k : Option β), pIn (nI d) 10 k = k := fun k => pIn_n (by omega) (by omega)
  have g2 : ∀ {β : Type} (k : Option β), pIn (nI s) 10 k = k := fun k => pIn_n (by omega) (by omega)
  have f1 : fX1_bytes 4 = 1 := by decide
  have f2 : fX1_makesFlags 4 = 0 := by decide
  have f3 : fX1_endsBlock 4 = 1 := by decide
  have u1 : ∀ x : Int32, upd st 9 x d = st d := fun x => pk_un (by omega)
  have u2 : ∀ x : Int32, upd st 9 x s = st s := fun x => pk_un (by omega)
  simp only [-Int32.reduceToNatClampNeg, pLet_e, pB_e2, fX2_execute_e, fX2_move_e, fX2_move_b187_e, fX2_steer_e, fX2_push_e, fX2_pop_e, fX2_write_e, fX2_give_e, fX2_give_b26_e, fX2_jumpIf_e, fX2_jumpIf_b21_e, fX2_countDown_e, gG_state_t, sG_state_t, gG_memory_t, sG_memory_t, gG_inputs_t, sG_inputs_t, gG_outputs_t, sG_outputs_t, gG_given_t, sG_given_t, gG_written_t, sG_written_t, j0, j1, j2, j3, j4, j5, j6, j7, j8, j9, j10, j11, j12, p10_0, p10_1, p10_2, p10_3, p10_4, p10_5, p10_6, p10_7, p10_8, p10_9, e1, e2, e3, e5, e6, c1, c2, g1, g2, f1, f2, f3, u1, u2, if_true, if_false, ne_4_0, ne_4_1, ne_4_2, ne_4_3, ne_4_5, ne_4_6, ne_4_7, ne_4_8, ne_4_9, ne_4_10, ne_4_11, ne_4_12, ne_4_13, ne_4_14, ne_4_15, ne_4_16, ne_4_17, ne_4_18, ne_4_19, ne_4_20, ne_4_21, ne_4_22, ne_4_23, ne_4_24, ne_4_25, ne_4_26, ne_4_27, ne_4_28, ne_4_29, ne_1_0]
set_option maxRecDepth 20000 in
theorem ex_5 {st mem outs : Nat → Int32} {iq : TQ} {gv wr : Int32} {b n d s : Nat} (hb : b < 256) (hn : n < 256) (hk : kC b = 5) (hde : b / 4 % 4 = d) (hse : b % 4 = s) :
    fX2_execute (st, mem, iq, outs, gv, wr) (nI (wd b n false)) = some (upd (upd st 9 ((st 9 + 1) &&& 255)) 8 0, mem, iq, outs, gv, wr) := by
  have e1 : fX1_kind (nI (wd b n false)) = 5 := kC_7 hb hn hk rfl
  have e2 := w_d (dd := false) hb hn
  have e3 := w_s (dd := false) hb hn
  have e5 := w_n (dd := false) hb hn
  have e6 := w_w (dd := false) hb hn
  generalize nI (wd b n false) = w at e1 e2 e3 e5 e6
  have hd : b / 4 % 4 < 4 := by omega
  have hs : b % 4 < 4 := by omega
  rw [hde] at e2 hd
  rw [hse] at e3 hs
  have c1 : (nI d).toNatClampNeg = d := cl_n (by omega)
  have c2 : (nI s).toNatClampNeg = s := cl_n (by omega)
  have g1 : ∀ {β : Type} (k : Option β), pIn (nI d) 10 k = k := fun k => pIn_n (by omega) (by omega)
  have g2 : ∀ {β : Type} (k : Option β), pIn (nI s) 10 k = k := fun k => pIn_n (by omega) (by omega)
  have f1 : fX1_bytes 5 = 1 := by decide
  have f2 : fX1_makesFlags 5 = 0 := by decide
  have f3 : fX1_endsBlock 5 = 0 := by decide
  have u1 : ∀ x : Int32, upd st 9 x d = st d := fun x => pk_un (by omega)
  have u2 : ∀ x : Int32, upd st 9 x s = st s := fun x => pk_un (by omega)
  simp only [-Int32.reduceToNatClampNeg, pLet_e, pB_e2, fX2_execute_e, fX2_move_e, fX2_move_b187_e, fX2_steer_e, fX2_push_e, fX2_pop_e, fX2_write_e, fX2_give_e, fX2_give_b26_e, fX2_jumpIf_e, fX2_jumpIf_b21_e, fX2_countDown_e, gG_state_t, sG_state_t, gG_memory_t, sG_memory_t, gG_inputs_t, sG_inputs_t, gG_outputs_t, sG_outputs_t, gG_given_t, sG_given_t, gG_written_t, sG_written_t, j0, j1, j2, j3, j4, j5, j6, j7, j8, j9, j10, j11, j12, p10_0, p10_1, p10_2, p10_3, p10_4, p10_5, p10_6, p10_7, p10_8, p10_9, e1, e2, e3, e5, e6, c1, c2, g1, g2, f1, f2, f3, u1, u2, if_true, if_false, ne_5_0, ne_5_1, ne_5_2, ne_5_3, ne_5_4, ne_5_6, ne_5_7, ne_5_8, ne_5_9, ne_5_10, ne_5_11, ne_5_12, ne_5_13, ne_5_14, ne_5_15, ne_5_16, ne_5_17, ne_5_18, ne_5_19, ne_5_20, ne_5_21, ne_5_22, ne_5_23, ne_5_24, ne_5_25, ne_5_26, ne_5_27, ne_5_28, ne_5_29, ne_1_0]
set_option maxRecDepth 20000 in
theorem ex_6 {st mem outs : Nat → Int32} {iq : TQ} {gv wr : Int32} {b n d s : Nat} (hb : b < 256) (hn : n < 256) (hk : kC b = 6) (hde : b / 4 % 4 = d) (hse : b % 4 = s) :
    fX2_execute (st, mem, iq, outs, gv, wr) (nI (wd b n false)) = some (upd (upd st 9 ((st 9 + 1) &&& 255)) d (st s), mem, iq, outs, gv, wr) := by
  have e1 : fX1_kind (nI (wd b n false)) = 6 := kC_7 hb hn hk rfl
  have e2 := w_d (dd := false) hb hn
  have e3 := w_s (dd := false) hb hn
  have e5 := w_n (dd := false) hb hn
  have e6 := w_w (dd := false) hb hn
  generalize nI (wd b n false) = w at e1 e2 e3 e5 e6
  have hd : b / 4 % 4 < 4 := by omega
  have hs : b % 4 < 4 := by omega
  rw [hde] at e2 hd
  rw [hse] at e3 hs
  have c1 : (nI d).toNatClampNeg = d := cl_n (by omega)
  have c2 : (nI s).toNatClampNeg = s := cl_n (by omega)
  have g1 : ∀ {β : Type} (k : Option β), pIn (nI d) 10 k = k := fun k => pIn_n (by omega) (by omega)
  have g2 : ∀ {β : Type} (k : Option β), pIn (nI s) 10 k = k := fun k => pIn_n (by omega) (by omega)
  have f1 : fX1_bytes 6 = 1 := by decide
  have f2 : fX1_makesFlags 6 = 0 := by decide
  have f3 : fX1_endsBlock 6 = 0 := by decide
  have u1 : ∀ x : Int32, upd st 9 x d = st d := fun x => pk_un (by omega)
  have u2 : ∀ x : Int32, upd st 9 x s = st s := fun x => pk_un (by omega)
  simp only [-Int32.reduceToNatClampNeg, pLet_e, pB_e2, fX2_execute_e, fX2_move_e, fX2_move_b187_e, fX2_steer_e, fX2_push_e, fX2_pop_e, fX2_write_e, fX2_give_e, fX2_give_b26_e, fX2_jumpIf_e, fX2_jumpIf_b21_e, fX2_countDown_e, gG_state_t, sG_state_t, gG_memory_t, sG_memory_t, gG_inputs_t, sG_inputs_t, gG_outputs_t, sG_outputs_t, gG_given_t, sG_given_t, gG_written_t, sG_written_t, j0, j1, j2, j3, j4, j5, j6, j7, j8, j9, j10, j11, j12, p10_0, p10_1, p10_2, p10_3, p10_4, p10_5, p10_6, p10_7, p10_8, p10_9, e1, e2, e3, e5, e6, c1, c2, g1, g2, f1, f2, f3, u1, u2, if_true, if_false, ne_6_0, ne_6_1, ne_6_2, ne_6_3, ne_6_4, ne_6_5, ne_6_7, ne_6_8, ne_6_9, ne_6_10, ne_6_11, ne_6_12, ne_6_13, ne_6_14, ne_6_15, ne_6_16, ne_6_17, ne_6_18, ne_6_19, ne_6_20, ne_6_21, ne_6_22, ne_6_23, ne_6_24, ne_6_25, ne_6_26, ne_6_27, ne_6_28, ne_6_29, ne_1_0]
set_option maxRecDepth 20000 in
theorem ex_17 {st mem outs : Nat → Int32} {iq : TQ} {gv wr : Int32} {b n d s : Nat} (hb : b < 256) (hn : n < 256) (hk : kC b = 17) (hde : b / 4 % 4 = d) (hse : b % 4 = s) :
    fX2_execute (st, mem, iq, outs, gv, wr) (nI (wd b n false)) = some (upd (upd st 9 ((st 9 + 2) &&& 255)) d (nI n), mem, iq, outs, gv, wr) := by
  have e1 : fX1_kind (nI (wd b n false)) = 17 := kC_7 hb hn hk rfl
  have e2 := w_d (dd := false) hb hn
  have e3 := w_s (dd := false) hb hn
  have e5 := w_n (dd := false) hb hn
  have e6 := w_w (dd := false) hb hn
  generalize nI (wd b n false) = w at e1 e2 e3 e5 e6
  have hd : b / 4 % 4 < 4 := by omega
  have hs : b % 4 < 4 := by omega
  rw [hde] at e2 hd
  rw [hse] at e3 hs
  have c1 : (nI d).toNatClampNeg = d := cl_n (by omega)
  have c2 : (nI s).toNatClampNeg = s := cl_n (by omega)
  have g1 : ∀ {β : Type} (k : Option β), pIn (nI d) 10 k = k := fun k => pIn_n (by omega) (by omega)
  have g2 : ∀ {β : Type} (k : Option β), pIn (nI s) 10 k = k := fun k => pIn_n (by omega) (by omega)
  have f1 : fX1_bytes 17 = 2 := by decide
  have f2 : fX1_makesFlags 17 = 0 := by decide
  have f3 : fX1_endsBlock 17 = 0 := by decide
  have u1 : ∀ x : Int32, upd st 9 x d = st d := fun x => pk_un (by omega)
  have u2 : ∀ x : Int32, upd st 9 x s = st s := fun x => pk_un (by omega)
  simp only [-Int32.reduceToNatClampNeg, pLet_e, pB_e2, fX2_execute_e, fX2_move_e, fX2_move_b187_e, fX2_steer_e, fX2_push_e, fX2_pop_e, fX2_write_e, fX2_give_e, fX2_give_b26_e, fX2_jumpIf_e, fX2_jumpIf_b21_e, fX2_countDown_e, gG_state_t, sG_state_t, gG_memory_t, sG_memory_t, gG_inputs_t, sG_inputs_t, gG_outputs_t, sG_outputs_t, gG_given_t, sG_given_t, gG_written_t, sG_written_t, j0, j1, j2, j3, j4, j5, j6, j7, j8, j9, j10, j11, j12, p10_0, p10_1, p10_2, p10_3, p10_4, p10_5, p10_6, p10_7, p10_8, p10_9, e1, e2, e3, e5, e6, c1, c2, g1, g2, f1, f2, f3, u1, u2, if_true, if_false, ne_17_0, ne_17_1, ne_17_2, ne_17_3, ne_17_4, ne_17_5, ne_17_6, ne_17_7, ne_17_8, ne_17_9, ne_17_10, ne_17_11, ne_17_12, ne_17_13, ne_17_14, ne_17_15, ne_17_16, ne_17_18, ne_17_19, ne_17_20, ne_17_21, ne_17_22, ne_17_23, ne_17_24, ne_17_25, ne_17_26, ne_17_27, ne_17_28, ne_17_29, ne_1_0]
set_option maxRecDepth 20000 in
theorem ex_21 {st mem outs : Nat → Int32} {iq : TQ} {gv wr : Int32} {b n d s : Nat} (hb : b < 256) (hn : n < 256) (hk : kC b = 21) (hde : b / 4 % 4 = d) (hse : b % 4 = s) {ad : Nat} (had : ad < 256) (hae : (st s + nI n) &&& 255 = nI ad) :
    fX2_execute (st, mem, iq, outs, gv, wr) (nI (wd b n false)) = some (upd (upd st 9 ((st 9 + 2) &&& 255)) d (mem ad), mem, iq, outs, gv, wr) := by
  have e1 : fX1_kind (nI (wd b n false)) = 21 := kC_7 hb hn hk rfl
  have e2 := w_d (dd := false) hb hn
  have e3 := w_s (dd := false) hb hn
  have e5 := w_n (dd := false) hb hn
  have e6 := w_w (dd := false) hb hn
  generalize nI (wd b n false) = w at e1 e2 e3 e5 e6
  have hd : b / 4 % 4 < 4 := by omega
  have hs : b % 4 < 4 := by omega
  rw [hde] at e2 hd
  rw [hse] at e3 hs
  have c1 : (nI d).toNatClampNeg = d := cl_n (by omega)
  have c2 : (nI s).toNatClampNeg = s := cl_n (by omega)
  have g1 : ∀ {β : Type} (k : Option β), pIn (nI d) 10 k = k := fun k => pIn_n (by omega) (by omega)
  have g2 : ∀ {β : Type} (k : Option β), pIn (nI s) 10 k = k := fun k => pIn_n (by omega) (by omega)
  have f1 : fX1_bytes 21 = 2 := by decide
  have f2 : fX1_makesFlags 21 = 0 := by decide
  have f3 : fX1_endsBlock 21 = 0 := by decide
  have u1 : ∀ x : Int32, upd st 9 x d = st d := fun x => pk_un (by omega)
  have u2 : ∀ x : Int32, upd st 9 x s = st s := fun x => pk_un (by omega)
  have g3 : ∀ {β : Type} (k : Option β), pIn (nI ad) 256 k = k := fun k => pIn_n (by omega) (by omega)
  have c3 : (nI ad).toNatClampNeg = ad := cl_n (by omega)
  simp only [-Int32.reduceToNatClampNeg, pLet_e, pB_e2, fX2_execute_e, fX2_move_e, fX2_move_b187_e, fX2_steer_e, fX2_push_e, fX2_pop_e, fX2_write_e, fX2_give_e, fX2_give_b26_e, fX2_jumpIf_e, fX2_jumpIf_b21_e, fX2_countDown_e, gG_state_t, sG_state_t, gG_memory_t, sG_memory_t, gG_inputs_t, sG_inputs_t, gG_outputs_t, sG_outputs_t, gG_given_t, sG_given_t, gG_written_t, sG_written_t, j0, j1, j2, j3, j4, j5, j6, j7, j8, j9, j10, j11, j12, p10_0, p10_1, p10_2, p10_3, p10_4, p10_5, p10_6, p10_7, p10_8, p10_9, e1, e2, e3, e5, e6, c1, c2, g1, g2, f1, f2, f3, u1, u2, if_true, if_false, ne_21_0, ne_21_1, ne_21_2, ne_21_3, ne_21_4, ne_21_5, ne_21_6, ne_21_7, ne_21_8, ne_21_9, ne_21_10, ne_21_11, ne_21_12, ne_21_13, ne_21_14, ne_21_15, ne_21_16, ne_21_17, ne_21_18, ne_21_19, ne_21_20, ne_21_22, ne_21_23, ne_21_24, ne_21_25, ne_21_26, ne_21_27, ne_21_28, ne_21_29, ne_1_0, hae, g3, c3]
set_option maxRecDepth 20000 in
theorem ex_22 {st mem outs : Nat → Int32} {iq : TQ} {gv wr : Int32} {b n d s : Nat} (hb : b < 256) (hn : n < 256) (hk : kC b = 22) (hde : b / 4 % 4 = d) (hse : b % 4 = s) {ad : Nat} (had : ad < 256) (hae : (st s + nI n) &&& 255 = nI ad) :
    fX2_execute (st, mem, iq, outs, gv, wr) (nI (wd b n false)) = some ((upd st 9 ((st 9 + 2) &&& 255)), upd mem ad (st d), iq, outs, gv, nI ad) := by
  have e1 : fX1_kind (nI (wd b n false)) = 22 := kC_7 hb hn hk rfl
  have e2 := w_d (dd := false) hb hn
  have e3 := w_s (dd := false) hb hn
  have e5 := w_n (dd := false) hb hn
  have e6 := w_w (dd := false) hb hn
  generalize nI (wd b n false) = w at e1 e2 e3 e5 e6
  have hd : b / 4 % 4 < 4 := by omega
  have hs : b % 4 < 4 := by omega
  rw [hde] at e2 hd
  rw [hse] at e3 hs
  have c1 : (nI d).toNatClampNeg = d := cl_n (by omega)
  have c2 : (nI s).toNatClampNeg = s := cl_n (by omega)
  have g1 : ∀ {β : Type} (k : Option β), pIn (nI d) 10 k = k := fun k => pIn_n (by omega) (by omega)
  have g2 : ∀ {β : Type} (k : Option β), pIn (nI s) 10 k = k := fun k => pIn_n (by omega) (by omega)
  have f1 : fX1_bytes 22 = 2 := by decide
  have f2 : fX1_makesFlags 22 = 0 := by decide
  have f3 : fX1_endsBlock 22 = 0 := by decide
  have u1 : ∀ x : Int32, upd st 9 x d = st d := fun x => pk_un (by omega)
  have u2 : ∀ x : Int32, upd st 9 x s = st s := fun x => pk_un (by omega)
  have g3 : ∀ {β : Type} (k : Option β), pIn (nI ad) 256 k = k := fun k => pIn_n (by omega) (by omega)
  have c3 : (nI ad).toNatClampNeg = ad := cl_n (by omega)
  simp only [-Int32.reduceToNatClampNeg, pLet_e, pB_e2, fX2_execute_e, fX2_move_e, fX2_move_b187_e, fX2_steer_e, fX2_push_e, fX2_pop_e, fX2_write_e, fX2_give_e, fX2_give_b26_e, fX2_jumpIf_e, fX2_jumpIf_b21_e, fX2_countDown_e, gG_state_t, sG_state_t, gG_memory_t, sG_memory_t, gG_inputs_t, sG_inputs_t, gG_outputs_t, sG_outputs_t, gG_given_t, sG_given_t, gG_written_t, sG_written_t, j0, j1, j2, j3, j4, j5, j6, j7, j8, j9, j10, j11, j12, p10_0, p10_1, p10_2, p10_3, p10_4, p10_5, p10_6, p10_7, p10_8, p10_9, e1, e2, e3, e5, e6, c1, c2, g1, g2, f1, f2, f3, u1, u2, if_true, if_false, ne_22_0, ne_22_1, ne_22_2, ne_22_3, ne_22_4, ne_22_5, ne_22_6, ne_22_7, ne_22_8, ne_22_9, ne_22_10, ne_22_11, ne_22_12, ne_22_13, ne_22_14, ne_22_15, ne_22_16, ne_22_17, ne_22_18, ne_22_19, ne_22_20, ne_22_21, ne_22_23, ne_22_24, ne_22_25, ne_22_26, ne_22_27, ne_22_28, ne_22_29, ne_1_0, hae, g3, c3]
set_option maxRecDepth 20000 in
theorem ex_23 {st mem outs : Nat → Int32} {iq : TQ} {gv wr : Int32} {b n d s : Nat} (hb : b < 256) (hn : n < 256) (hk : kC b = 23) (hde : b / 4 % 4 = d) (hse : b % 4 = s) :
    fX2_execute (st, mem, iq, outs, gv, wr) (nI (wd b n false)) = some (upd (upd st 9 ((st 9 + 2) &&& 255)) 9 (nI n), mem, iq, outs, gv, wr) := by
  have e1 : fX1_kind (nI (wd b n false)) = 23 := kC_7 hb hn hk rfl
  have e2 := w_d (dd := false) hb hn
  have e3 := w_s (dd := false) hb hn
  have e5 := w_n (dd := false) hb hn
  have e6 := w_w (dd := false) hb hn
  generalize nI (wd b n false) = w at e1 e2 e3 e5 e6
  have hd : b / 4 % 4 < 4 := by omega
  have hs : b % 4 < 4 := by omega
  rw [hde] at e2 hd
  rw [hse] at e3 hs
  have c1 : (nI d).toNatClampNeg = d := cl_n (by omega)
  have c2 : (nI s).toNatClampNeg = s := cl_n (by omega)
  have g1 : ∀ {β : Type} (k : Option β), pIn (nI d) 10 k = k := fun k => pIn_n (by omega) (by omega)
  have g2 : ∀ {β : Type} (k : Option β), pIn (nI s) 10 k = k := fun k => pIn_n (by omega) (by omega)
  have f1 : fX1_bytes 23 = 2 := by decide
  have f2 : fX1_makesFlags 23 = 0 := by decide
  have f3 : fX1_endsBlock 23 = 1 := by decide
  have u1 : ∀ x : Int32, upd st 9 x d = st d := fun x => pk_un (by omega)
  have u2 : ∀ x : Int32, upd st 9 x s = st s := fun x => pk_un (by omega)
  simp only [-Int32.reduceToNatClampNeg, pLet_e, pB_e2, fX2_execute_e, fX2_move_e, fX2_move_b187_e, fX2_steer_e, fX2_push_e, fX2_pop_e, fX2_write_e, fX2_give_e, fX2_give_b26_e, fX2_jumpIf_e, fX2_jumpIf_b21_e, fX2_countDown_e, gG_state_t, sG_state_t, gG_memory_t, sG_memory_t, gG_inputs_t, sG_inputs_t, gG_outputs_t, sG_outputs_t, gG_given_t, sG_given_t, gG_written_t, sG_written_t, j0, j1, j2, j3, j4, j5, j6, j7, j8, j9, j10, j11, j12, p10_0, p10_1, p10_2, p10_3, p10_4, p10_5, p10_6, p10_7, p10_8, p10_9, e1, e2, e3, e5, e6, c1, c2, g1, g2, f1, f2, f3, u1, u2, if_true, if_false, ne_23_0, ne_23_1, ne_23_2, ne_23_3, ne_23_4, ne_23_5, ne_23_6, ne_23_7, ne_23_8, ne_23_9, ne_23_10, ne_23_11, ne_23_12, ne_23_13, ne_23_14, ne_23_15, ne_23_16, ne_23_17, ne_23_18, ne_23_19, ne_23_20, ne_23_21, ne_23_22, ne_23_24, ne_23_25, ne_23_26, ne_23_27, ne_23_28, ne_23_29, ne_1_0]
set_option maxRecDepth 20000 in
theorem ex_2a {st mem outs : Nat → Int32} {iq : TQ} {gv wr : Int32} {b n d s : Nat} (hb : b < 256) (hn : n < 256) (hk : kC b = 2) (hde : b / 4 % 4 = d) (hse : b % 4 = s) {gn : Nat} (hg : gn < 100) (hge : gv = nI gn) :
    fX2_execute (st, mem, iq, outs, gv, wr) (nI (wd b n false)) = some ((upd st 9 ((st 9 + 1) &&& 255)), mem, iq, upd outs gn (st 0), nI gn + 1, wr) := by
  have e1 : fX1_kind (nI (wd b n false)) = 2 := kC_7 hb hn hk rfl
  have e2 := w_d (dd := false) hb hn
  have e3 := w_s (dd := false) hb hn
  have e5 := w_n (dd := false) hb hn
  have e6 := w_w (dd := false) hb hn
  generalize nI (wd b n false) = w at e1 e2 e3 e5 e6
  have hd : b / 4 % 4 < 4 := by omega
  have hs : b % 4 < 4 := by omega
  rw [hde] at e2 hd
  rw [hse] at e3 hs
  have c1 : (nI d).toNatClampNeg = d := cl_n (by omega)
  have c2 : (nI s).toNatClampNeg = s := cl_n (by omega)
  have g1 : ∀ {β : Type} (k : Option β), pIn (nI d) 10 k = k := fun k => pIn_n (by omega) (by omega)
  have g2 : ∀ {β : Type} (k : Option β), pIn (nI s) 10 k = k := fun k => pIn_n (by omega) (by omega)
  have f1 : fX1_bytes 2 = 1 := by decide
  have f2 : fX1_makesFlags 2 = 0 := by decide
  have f3 : fX1_endsBlock 2 = 0 := by decide
  have u1 : ∀ x : Int32, upd st 9 x d = st d := fun x => pk_un (by omega)
  have u2 : ∀ x : Int32, upd st 9 x s = st s := fun x => pk_un (by omega)
  subst hge
  have u9_0 : ∀ x : Int32, upd st 9 x 0 = st 0 := fun x => pk_un (by omega)
  have q1 : ¬ (100 : Int32) ≤ nI gn := nI_ge (b := 100) hg (by omega)
  have q4 : ¬ nI gn < 0 := nI_nlt (b := 0) (by omega) (by omega)
  have q2 : ∀ {β : Type} (k : Option β), pIn (nI gn) 100 k = k := fun k => pIn_n (by omega) (by omega)
  have q3 : (nI gn).toNatClampNeg = gn := cl_n (by omega)
  simp only [-Int32.reduceToNatClampNeg, pLet_e, pB_e2, fX2_execute_e, fX2_move_e, fX2_move_b187_e, fX2_steer_e, fX2_push_e, fX2_pop_e, fX2_write_e, fX2_give_e, fX2_give_b26_e, fX2_jumpIf_e, fX2_jumpIf_b21_e, fX2_countDown_e, gG_state_t, sG_state_t, gG_memory_t, sG_memory_t, gG_inputs_t, sG_inputs_t, gG_outputs_t, sG_outputs_t, gG_given_t, sG_given_t, gG_written_t, sG_written_t, j0, j1, j2, j3, j4, j5, j6, j7, j8, j9, j10, j11, j12, p10_0, p10_1, p10_2, p10_3, p10_4, p10_5, p10_6, p10_7, p10_8, p10_9, e1, e2, e3, e5, e6, c1, c2, g1, g2, f1, f2, f3, u1, u2, if_true, if_false, ne_2_0, ne_2_1, ne_2_3, ne_2_4, ne_2_5, ne_2_6, ne_2_7, ne_2_8, ne_2_9, ne_2_10, ne_2_11, ne_2_12, ne_2_13, ne_2_14, ne_2_15, ne_2_16, ne_2_17, ne_2_18, ne_2_19, ne_2_20, ne_2_21, ne_2_22, ne_2_23, ne_2_24, ne_2_25, ne_2_26, ne_2_27, ne_2_28, ne_2_29, ne_1_0, q1, q2, q3, q4, u9_0]
set_option maxRecDepth 20000 in
theorem ex_2b {st mem outs : Nat → Int32} {iq : TQ} {gv wr : Int32} {b n d s : Nat} (hb : b < 256) (hn : n < 256) (hk : kC b = 2) (hde : b / 4 % 4 = d) (hse : b % 4 = s) {gn : Nat} (hg : 100 ≤ gn) (hg2 : gn < 2 ^ 31) (hge : gv = nI gn) :
    fX2_execute (st, mem, iq, outs, gv, wr) (nI (wd b n false)) = some ((upd st 9 ((st 9 + 1) &&& 255)), mem, iq, outs, nI gn + 1, wr) := by
  have e1 : fX1_kind (nI (wd b n false)) = 2 := kC_7 hb hn hk rfl
  have e2 := w_d (dd := false) hb hn
  have e3 := w_s (dd := false) hb hn
  have e5 := w_n (dd := false) hb hn
  have e6 := w_w (dd := false) hb hn
  generalize nI (wd b n false) = w at e1 e2 e3 e5 e6
  have hd : b / 4 % 4 < 4 := by omega
  have hs : b % 4 < 4 := by omega
  rw [hde] at e2 hd
  rw [hse] at e3 hs
  have c1 : (nI d).toNatClampNeg = d := cl_n (by omega)
  have c2 : (nI s).toNatClampNeg = s := cl_n (by omega)
  have g1 : ∀ {β : Type} (k : Option β), pIn (nI d) 10 k = k := fun k => pIn_n (by omega) (by omega)
  have g2 : ∀ {β : Type} (k : Option β), pIn (nI s) 10 k = k := fun k => pIn_n (by omega) (by omega)
  have f1 : fX1_bytes 2 = 1 := by decide
  have f2 : fX1_makesFlags 2 = 0 := by decide
  have f3 : fX1_endsBlock 2 = 0 := by decide
  have u1 : ∀ x : Int32, upd st 9 x d = st d := fun x => pk_un (by omega)
  have u2 : ∀ x : Int32, upd st 9 x s = st s := fun x => pk_un (by omega)
  subst hge
  have u9_0 : ∀ x : Int32, upd st 9 x 0 = st 0 := fun x => pk_un (by omega)
  have q1 : (100 : Int32) ≤ nI gn := nI_le (a := 100) hg (by omega)
  have q4 : ¬ nI gn < 0 := nI_nlt (b := 0) (by omega) (by omega)
  simp only [-Int32.reduceToNatClampNeg, pLet_e, pB_e2, fX2_execute_e, fX2_move_e, fX2_move_b187_e, fX2_steer_e, fX2_push_e, fX2_pop_e, fX2_write_e, fX2_give_e, fX2_give_b26_e, fX2_jumpIf_e, fX2_jumpIf_b21_e, fX2_countDown_e, gG_state_t, sG_state_t, gG_memory_t, sG_memory_t, gG_inputs_t, sG_inputs_t, gG_outputs_t, sG_outputs_t, gG_given_t, sG_given_t, gG_written_t, sG_written_t, j0, j1, j2, j3, j4, j5, j6, j7, j8, j9, j10, j11, j12, p10_0, p10_1, p10_2, p10_3, p10_4, p10_5, p10_6, p10_7, p10_8, p10_9, e1, e2, e3, e5, e6, c1, c2, g1, g2, f1, f2, f3, u1, u2, if_true, if_false, ne_2_0, ne_2_1, ne_2_3, ne_2_4, ne_2_5, ne_2_6, ne_2_7, ne_2_8, ne_2_9, ne_2_10, ne_2_11, ne_2_12, ne_2_13, ne_2_14, ne_2_15, ne_2_16, ne_2_17, ne_2_18, ne_2_19, ne_2_20, ne_2_21, ne_2_22, ne_2_23, ne_2_24, ne_2_25, ne_2_26, ne_2_27, ne_2_28, ne_2_29, ne_1_0, q1, q4, u9_0]
set_option maxRecDepth 20000 in
theorem ex_3a {st mem outs : Nat → Int32} {iq : TQ} {gv wr : Int32} {b n d s : Nat} (hb : b < 256) (hn : n < 256) (hk : kC b = 3) (hde : b / 4 % 4 = d) (hse : b % 4 = s) (hq : gQ_many iq = 0) :
    fX2_execute (st, mem, iq, outs, gv, wr) (nI (wd b n false)) = some (upd (upd st 9 ((st 9 + 1) &&& 255)) 0 0, mem, iq, outs, gv, wr) := by
  have e1 : fX1_kind (nI (wd b n false)) = 3 := kC_7 hb hn hk rfl
  have e2 := w_d (dd := false) hb hn
  have e3 := w_s (dd := false) hb hn
  have e5 := w_n (dd := false) hb hn
  have e6 := w_w (dd := false) hb hn
  generalize nI (wd b n false) = w at e1 e2 e3 e5 e6
  have hd : b / 4 % 4 < 4 := by omega
  have hs : b % 4 < 4 := by omega
  rw [hde] at e2 hd
  rw [hse] at e3 hs
  have c1 : (nI d).toNatClampNeg = d := cl_n (by omega)
  have c2 : (nI s).toNatClampNeg = s := cl_n (by omega)
  have g1 : ∀ {β : Type} (k : Option β), pIn (nI d) 10 k = k := fun k => pIn_n (by omega) (by omega)
  have g2 : ∀ {β : Type} (k : Option β), pIn (nI s) 10 k = k := fun k => pIn_n (by omega) (by omega)
  have f1 : fX1_bytes 3 = 1 := by decide
  have f2 : fX1_makesFlags 3 = 0 := by decide
  have f3 : fX1_endsBlock 3 = 0 := by decide
  have u1 : ∀ x : Int32, upd st 9 x d = st d := fun x => pk_un (by omega)
  have u2 : ∀ x : Int32, upd st 9 x s = st s := fun x => pk_un (by omega)
  simp only [-Int32.reduceToNatClampNeg, pLet_e, pB_e2, fX2_execute_e, fX2_move_e, fX2_move_b187_e, fX2_steer_e, fX2_push_e, fX2_pop_e, fX2_write_e, fX2_give_e, fX2_give_b26_e, fX2_jumpIf_e, fX2_jumpIf_b21_e, fX2_countDown_e, gG_state_t, sG_state_t, gG_memory_t, sG_memory_t, gG_inputs_t, sG_inputs_t, gG_outputs_t, sG_outputs_t, gG_given_t, sG_given_t, gG_written_t, sG_written_t, j0, j1, j2, j3, j4, j5, j6, j7, j8, j9, j10, j11, j12, p10_0, p10_1, p10_2, p10_3, p10_4, p10_5, p10_6, p10_7, p10_8, p10_9, e1, e2, e3, e5, e6, c1, c2, g1, g2, f1, f2, f3, u1, u2, if_true, if_false, ne_3_0, ne_3_1, ne_3_2, ne_3_4, ne_3_5, ne_3_6, ne_3_7, ne_3_8, ne_3_9, ne_3_10, ne_3_11, ne_3_12, ne_3_13, ne_3_14, ne_3_15, ne_3_16, ne_3_17, ne_3_18, ne_3_19, ne_3_20, ne_3_21, ne_3_22, ne_3_23, ne_3_24, ne_3_25, ne_3_26, ne_3_27, ne_3_28, ne_3_29, ne_1_0, hq]
set_option maxRecDepth 20000 in
theorem ex_3b {st mem outs : Nat → Int32} {iq : TQ} {gv wr : Int32} {b n d s : Nat} (hb : b < 256) (hn : n < 256) (hk : kC b = 3) (hde : b / 4 % 4 = d) (hse : b % 4 = s) {qx : Int32} {qy : TQ} (hq : ¬ gQ_many iq = 0) (hq2 : fX3_takeFirst 32 iq = some (qx, qy)) :
    fX2_execute (st, mem, iq, outs, gv, wr) (nI (wd b n false)) = some (upd (upd st 9 ((st 9 + 1) &&& 255)) 0 qx, mem, qy, outs, gv, wr) := by
  have e1 : fX1_kind (nI (wd b n false)) = 3 := kC_7 hb hn hk rfl
  have e2 := w_d (dd := false) hb hn
  have e3 := w_s (dd := false) hb hn
  have e5 := w_n (dd := false) hb hn
  have e6 := w_w (dd := false) hb hn
  generalize nI (wd b n false) = w at e1 e2 e3 e5 e6
  have hd : b / 4 % 4 < 4 := by omega
  have hs : b % 4 < 4 := by omega
  rw [hde] at e2 hd
  rw [hse] at e3 hs
  have c1 : (nI d).toNatClampNeg = d := cl_n (by omega)
  have c2 : (nI s).toNatClampNeg = s := cl_n (by omega)
  have g1 : ∀ {β : Type} (k : Option β), pIn (nI d) 10 k = k := fun k => pIn_n (by omega) (by omega)
  have g2 : ∀ {β : Type} (k : Option β), pIn (nI s) 10 k = k := fun k => pIn_n (by omega) (by omega)
  have f1 : fX1_bytes 3 = 1 := by decide
  have f2 : fX1_makesFlags 3 = 0 := by decide
  have f3 : fX1_endsBlock 3 = 0 := by decide
  have u1 : ∀ x : Int32, upd st 9 x d = st d := fun x => pk_un (by omega)
  have u2 : ∀ x : Int32, upd st 9 x s = st s := fun x => pk_un (by omega)
  simp only [-Int32.reduceToNatClampNeg, pLet_e, pB_e2, fX2_execute_e, fX2_move_e, fX2_move_b187_e, fX2_steer_e, fX2_push_e, fX2_pop_e, fX2_write_e, fX2_give_e, fX2_give_b26_e, fX2_jumpIf_e, fX2_jumpIf_b21_e, fX2_countDown_e, gG_state_t, sG_state_t, gG_memory_t, sG_memory_t, gG_inputs_t, sG_inputs_t, gG_outputs_t, sG_outputs_t, gG_given_t, sG_given_t, gG_written_t, sG_written_t, j0, j1, j2, j3, j4, j5, j6, j7, j8, j9, j10, j11, j12, p10_0, p10_1, p10_2, p10_3, p10_4, p10_5, p10_6, p10_7, p10_8, p10_9, e1, e2, e3, e5, e6, c1, c2, g1, g2, f1, f2, f3, u1, u2, if_true, if_false, ne_3_0, ne_3_1, ne_3_2, ne_3_4, ne_3_5, ne_3_6, ne_3_7, ne_3_8, ne_3_9, ne_3_10, ne_3_11, ne_3_12, ne_3_13, ne_3_14, ne_3_15, ne_3_16, ne_3_17, ne_3_18, ne_3_19, ne_3_20, ne_3_21, ne_3_22, ne_3_23, ne_3_24, ne_3_25, ne_3_26, ne_3_27, ne_3_28, ne_3_29, ne_1_0, hq, hq2]
set_option maxRecDepth 20000 in
theorem ex_24_1t {st mem outs : Nat → Int32} {iq : TQ} {gv wr : Int32} {b n d s : Nat} (hb : b < 256) (hn : n < 256) (hk : kC b = 24) (hde : b / 4 % 4 = d) (hse : b % 4 = s) (hwv : b % 16 = 1) (hfl : st 5 = 1) :
    fX2_execute (st, mem, iq, outs, gv, wr) (nI (wd b n false)) = some (upd (upd st 9 ((st 9 + 2) &&& 255)) 9 (nI n), mem, iq, outs, gv, wr) := by
  have e1 : fX1_kind (nI (wd b n false)) = 24 := kC_7 hb hn hk rfl
  have e2 := w_d (dd := false) hb hn
  have e3 := w_s (dd := false) hb hn
  have e5 := w_n (dd := false) hb hn
  have e6 := w_w (dd := false) hb hn
  generalize nI (wd b n false) = w at e1 e2 e3 e5 e6
  have hd : b / 4 % 4 < 4 := by omega
  have hs : b % 4 < 4 := by omega
  rw [hde] at e2 hd
  rw [hse] at e3 hs
  have c1 : (nI d).toNatClampNeg = d := cl_n (by omega)
  have c2 : (nI s).toNatClampNeg = s := cl_n (by omega)
  have g1 : ∀ {β : Type} (k : Option β), pIn (nI d) 10 k = k := fun k => pIn_n (by omega) (by omega)
  have g2 : ∀ {β : Type} (k : Option β), pIn (nI s) 10 k = k := fun k => pIn_n (by omega) (by omega)
  have f1 : fX1_bytes 24 = 2 := by decide
  have f2 : fX1_makesFlags 24 = 0 := by decide
  have f3 : fX1_endsBlock 24 = 1 := by decide
  have u1 : ∀ x : Int32, upd st 9 x d = st d := fun x => pk_un (by omega)
  have u2 : ∀ x : Int32, upd st 9 x s = st s := fun x => pk_un (by omega)
  rw [hwv] at e6
  rw [show nI 1 = (1 : Int32) from rfl] at e6
  have u9_5 : ∀ x : Int32, upd st 9 x 5 = st 5 := fun x => pk_un (by omega)
  have q1 : ¬ (2 : Int32) < 1 := by decide
  have q2 : ¬ (4 : Int32) < 1 := by decide
  have q3 : (1 : Int32) &&& 1 = 1 := by decide
  simp only [-Int32.reduceToNatClampNeg, pLet_e, pB_e2, fX2_execute_e, fX2_move_e, fX2_move_b187_e, fX2_steer_e, fX2_push_e, fX2_pop_e, fX2_write_e, fX2_give_e, fX2_give_b26_e, fX2_jumpIf_e, fX2_jumpIf_b21_e, fX2_countDown_e, gG_state_t, sG_state_t, gG_memory_t, sG_memory_t, gG_inputs_t, sG_inputs_t, gG_outputs_t, sG_outputs_t, gG_given_t, sG_given_t, gG_written_t, sG_written_t, j0, j1, j2, j3, j4, j5, j6, j7, j8, j9, j10, j11, j12, p10_0, p10_1, p10_2, p10_3, p10_4, p10_5, p10_6, p10_7, p10_8, p10_9, e1, e2, e3, e5, e6, c1, c2, g1, g2, f1, f2, f3, u1, u2, if_true, if_false, ne_24_0, ne_24_1, ne_24_2, ne_24_3, ne_24_4, ne_24_5, ne_24_6, ne_24_7, ne_24_8, ne_24_9, ne_24_10, ne_24_11, ne_24_12, ne_24_13, ne_24_14, ne_24_15, ne_24_16, ne_24_17, ne_24_18, ne_24_19, ne_24_20, ne_24_21, ne_24_22, ne_24_23, ne_24_25, ne_24_26, ne_24_27, ne_24_28, ne_24_29, ne_1_0, q1, q2, q3, u9_5, hfl]
set_option maxRecDepth 20000 in
theorem ex_24_1f {st mem outs : Nat → Int32} {iq : TQ} {gv wr : Int32} {b n d s : Nat} (hb : b < 256) (hn : n < 256) (hk : kC b = 24) (hde : b / 4 % 4 = d) (hse : b % 4 = s) (hwv : b % 16 = 1) (hfl : ¬ st 5 = 1) :
    fX2_execute (st, mem, iq, outs, gv, wr) (nI (wd b n false)) = some ((upd st 9 ((st 9 + 2) &&& 255)), mem, iq, outs, gv, wr) := by
  have e1 : fX1_kind (nI (wd b n false)) = 24 := kC_7 hb hn hk rfl
  have e2 := w_d (dd := false) hb hn
  have e3 := w_s (dd := false) hb hn
  have e5 := w_n (dd := false) hb hn
  have e6 := w_w (dd := false) hb hn
  generalize nI (wd b n false) = w at e1 e2 e3 e5 e6
  have hd : b / 4 % 4 < 4 := by omega
  have hs : b % 4 < 4 := by omega
  rw [hde] at e2 hd
  rw [hse] at e3 hs
  have c1 : (nI d).toNatClampNeg = d := cl_n (by omega)
  have c2 : (nI s).toNatClampNeg = s := cl_n (by omega)
  have g1 : ∀ {β : Type} (k : Option β), pIn (nI d) 10 k = k := fun k => pIn_n (by omega) (by omega)
  have g2 : ∀ {β : Type} (k : Option β), pIn (nI s) 10 k = k := fun k => pIn_n (by omega) (by omega)
  have f1 : fX1_bytes 24 = 2 := by decide
  have f2 : fX1_makesFlags 24 = 0 := by decide
  have f3 : fX1_endsBlock 24 = 1 := by decide
  have u1 : ∀ x : Int32, upd st 9 x d = st d := fun x => pk_un (by omega)
  have u2 : ∀ x : Int32, upd st 9 x s = st s := fun x => pk_un (by omega)
  rw [hwv] at e6
  rw [show nI 1 = (1 : Int32) from rfl] at e6
  have u9_5 : ∀ x : Int32, upd st 9 x 5 = st 5 := fun x => pk_un (by omega)
  have q1 : ¬ (2 : Int32) < 1 := by decide
  have q2 : ¬ (4 : Int32) < 1 := by decide
  have q3 : (1 : Int32) &&& 1 = 1 := by decide
  simp only [-Int32.reduceToNatClampNeg, pLet_e, pB_e2, fX2_execute_e, fX2_move_e, fX2_move_b187_e, fX2_steer_e, fX2_push_e, fX2_pop_e, fX2_write_e, fX2_give_e, fX2_give_b26_e, fX2_jumpIf_e, fX2_jumpIf_b21_e, fX2_countDown_e, gG_state_t, sG_state_t, gG_memory_t, sG_memory_t, gG_inputs_t, sG_inputs_t, gG_outputs_t, sG_outputs_t, gG_given_t, sG_given_t, gG_written_t, sG_written_t, j0, j1, j2, j3, j4, j5, j6, j7, j8, j9, j10, j11, j12, p10_0, p10_1, p10_2, p10_3, p10_4, p10_5, p10_6, p10_7, p10_8, p10_9, e1, e2, e3, e5, e6, c1, c2, g1, g2, f1, f2, f3, u1, u2, if_true, if_false, ne_24_0, ne_24_1, ne_24_2, ne_24_3, ne_24_4, ne_24_5, ne_24_6, ne_24_7, ne_24_8, ne_24_9, ne_24_10, ne_24_11, ne_24_12, ne_24_13, ne_24_14, ne_24_15, ne_24_16, ne_24_17, ne_24_18, ne_24_19, ne_24_20, ne_24_21, ne_24_22, ne_24_23, ne_24_25, ne_24_26, ne_24_27, ne_24_28, ne_24_29, ne_1_0, q1, q2, q3, u9_5, hfl]
set_option maxRecDepth 20000 in
theorem ex_24_2t {st mem outs : Nat → Int32} {iq : TQ} {gv wr : Int32} {b n d s : Nat} (hb : b < 256) (hn : n < 256) (hk : kC b = 24) (hde : b / 4 % 4 = d) (hse : b % 4 = s) (hwv : b % 16 = 2) (hfl : st 5 = 0) :
    fX2_execute (st, mem, iq, outs, gv, wr) (nI (wd b n false)) = some (upd (upd st 9 ((st 9 + 2) &&& 255)) 9 (nI n), mem, iq, outs, gv, wr) := by
  have e1 : fX1_kind (nI (wd b n false)) = 24 := kC_7 hb hn hk rfl
  have e2 := w_d (dd := false) hb hn
  have e3 := w_s (dd := false) hb hn
  have e5 := w_n (dd := false) hb hn
  have e6 := w_w (dd := false) hb hn
  generalize nI (wd b n false) = w at e1 e2 e3 e5 e6
  have hd : b / 4 % 4 < 4 := by omega
  have hs : b % 4 < 4 := by omega
  rw [hde] at e2 hd
  rw [hse] at e3 hs
  have c1 : (nI d).toNatClampNeg = d := cl_n (by omega)
  have c2 : (nI s).toNatClampNeg = s := cl_n (by omega)
  have g1 : ∀ {β : Type} (k : Option β), pIn (nI d) 10 k = k := fun k => pIn_n (by omega) (by omega)
  have g2 : ∀ {β : Type} (k : Option β), pIn (nI s) 10 k = k := fun k => pIn_n (by omega) (by omega)
  have f1 : fX1_bytes 24 = 2 := by decide
  have f2 : fX1_makesFlags 24 = 0 := by decide
  have f3 : fX1_endsBlock 24 = 1 := by decide
  have u1 : ∀ x : Int32, upd st 9 x d = st d := fun x => pk_un (by omega)
  have u2 : ∀ x : Int32, upd st 9 x s = st s := fun x => pk_un (by omega)
  rw [hwv] at e6
  rw [show nI 2 = (2 : Int32) from rfl] at e6
  have u9_5 : ∀ x : Int32, upd st 9 x 5 = st 5 := fun x => pk_un (by omega)
  have q1 : ¬ (2 : Int32) < 2 := by decide
  have q2 : ¬ (4 : Int32) < 2 := by decide
  have q3 : (2 : Int32) &&& 1 = 0 := by decide
  simp only [-Int32.reduceToNatClampNeg, pLet_e, pB_e2, fX2_execute_e, fX2_move_e, fX2_move_b187_e, fX2_steer_e, fX2_push_e, fX2_pop_e, fX2_write_e, fX2_give_e, fX2_give_b26_e, fX2_jumpIf_e, fX2_jumpIf_b21_e, fX2_countDown_e, gG_state_t, sG_state_t, gG_memory_t, sG_memory_t, gG_inputs_t, sG_inputs_t, gG_outputs_t, sG_outputs_t, gG_given_t, sG_given_t, gG_written_t, sG_written_t, j0, j1, j2, j3, j4, j5, j6, j7, j8, j9, j10, j11, j12, p10_0, p10_1, p10_2, p10_3, p10_4, p10_5, p10_6, p10_7, p10_8, p10_9, e1, e2, e3, e5, e6, c1, c2, g1, g2, f1, f2, f3, u1, u2, if_true, if_false, ne_24_0, ne_24_1, ne_24_2, ne_24_3, ne_24_4, ne_24_5, ne_24_6, ne_24_7, ne_24_8, ne_24_9, ne_24_10, ne_24_11, ne_24_12, ne_24_13, ne_24_14, ne_24_15, ne_24_16, ne_24_17, ne_24_18, ne_24_19, ne_24_20, ne_24_21, ne_24_22, ne_24_23, ne_24_25, ne_24_26, ne_24_27, ne_24_28, ne_24_29, ne_1_0, q1, q2, q3, u9_5, hfl]
set_option maxRecDepth 20000 in
theorem ex_24_2f {st mem outs : Nat → Int32} {iq : TQ} {gv wr : Int32} {b n d s : Nat} (hb : b < 256) (hn : n < 256) (hk : kC b = 24) (hde : b / 4 % 4 = d) (hse : b % 4 = s) (hwv : b % 16 = 2) (hfl : ¬ st 5 = 0) :
    fX2_execute (st, mem, iq, outs, gv, wr) (nI (wd b n false)) = some ((upd st 9 ((st 9 + 2) &&& 255)), mem, iq, outs, gv, wr) := by
  have e1 : fX1_kind (nI (wd b n false)) = 24 := kC_7 hb hn hk rfl
  have e2 := w_d (dd := false) hb hn
  have e3 := w_s (dd := false) hb hn
  have e5 := w_n (dd := false) hb hn
  have e6 := w_w (dd := false) hb hn
  generalize nI (wd b n false) = w at e1 e2 e3 e5 e6
  have hd : b / 4 % 4 < 4 := by omega
  have hs : b % 4 < 4 := by omega
  rw [hde] at e2 hd
  rw [hse] at e3 hs
  have c1 : (nI d).toNatClampNeg = d := cl_n (by omega)
  have c2 : (nI s).toNatClampNeg = s := cl_n (by omega)
  have g1 : ∀ {β : Type} (k : Option β), pIn (nI d) 10 k = k := fun k => pIn_n (by omega) (by omega)
  have g2 : ∀ {β : Type} (k : Option β), pIn (nI s) 10 k = k := fun k => pIn_n (by omega) (by omega)
  have f1 : fX1_bytes 24 = 2 := by decide
  have f2 : fX1_makesFlags 24 = 0 := by decide
  have f3 : fX1_endsBlock 24 = 1 := by decide
  have u1 : ∀ x : Int32, upd st 9 x d = st d := fun x => pk_un (by omega)
  have u2 : ∀ x : Int32, upd st 9 x s = st s := fun x => pk_un (by omega)
  rw [hwv] at e6
  rw [show nI 2 = (2 : Int32) from rfl] at e6
  have u9_5 : ∀ x : Int32, upd st 9 x 5 = st 5 := fun x => pk_un (by omega)
  have q1 : ¬ (2 : Int32) < 2 := by decide
  have q2 : ¬ (4 : Int32) < 2 := by decide
  have q3 : (2 : Int32) &&& 1 = 0 := by decide
  simp only [-Int32.reduceToNatClampNeg, pLet_e, pB_e2, fX2_execute_e, fX2_move_e, fX2_move_b187_e, fX2_steer_e, fX2_push_e, fX2_pop_e, fX2_write_e, fX2_give_e, fX2_give_b26_e, fX2_jumpIf_e, fX2_jumpIf_b21_e, fX2_countDown_e, gG_state_t, sG_state_t, gG_memory_t, sG_memory_t, gG_inputs_t, sG_inputs_t, gG_outputs_t, sG_outputs_t, gG_given_t, sG_given_t, gG_written_t, sG_written_t, j0, j1, j2, j3, j4, j5, j6, j7, j8, j9, j10, j11, j12, p10_0, p10_1, p10_2, p10_3, p10_4, p10_5, p10_6, p10_7, p10_8, p10_9, e1, e2, e3, e5, e6, c1, c2, g1, g2, f1, f2, f3, u1, u2, if_true, if_false, ne_24_0, ne_24_1, ne_24_2, ne_24_3, ne_24_4, ne_24_5, ne_24_6, ne_24_7, ne_24_8, ne_24_9, ne_24_10, ne_24_11, ne_24_12, ne_24_13, ne_24_14, ne_24_15, ne_24_16, ne_24_17, ne_24_18, ne_24_19, ne_24_20, ne_24_21, ne_24_22, ne_24_23, ne_24_25, ne_24_26, ne_24_27, ne_24_28, ne_24_29, ne_1_0, q1, q2, q3, u9_5, hfl]
set_option maxRecDepth 20000 in
theorem ex_24_3t {st mem outs : Nat → Int32} {iq : TQ} {gv wr : Int32} {b n d s : Nat} (hb : b < 256) (hn : n < 256) (hk : kC b = 24) (hde : b / 4 % 4 = d) (hse : b % 4 = s) (hwv : b % 16 = 3) (hfl : st 6 = 1) :
    fX2_execute (st, mem, iq, outs, gv, wr) (nI (wd b n false)) = some (upd (upd st 9 ((st 9 + 2) &&& 255)) 9 (nI n), mem, iq, outs, gv, wr) := by
  have e1 : fX1_kind (nI (wd b n false)) = 24 := kC_7 hb hn hk rfl
  have e2 := w_d (dd := false) hb hn
  have e3 := w_s (dd := false) hb hn
  have e5 := w_n (dd := false) hb hn
  have e6 := w_w (dd := false) hb hn
  generalize nI (wd b n false) = w at e1 e2 e3 e5 e6
  have hd : b / 4 % 4 < 4 := by omega
  have hs : b % 4 < 4 := by omega
  rw [hde] at e2 hd
  rw [hse] at e3 hs
  have c1 : (nI d).toNatClampNeg = d := cl_n (by omega)
  have c2 : (nI s).toNatClampNeg = s := cl_n (by omega)
  have g1 : ∀ {β : Type} (k : Option β), pIn (nI d) 10 k = k := fun k => pIn_n (by omega) (by omega)
  have g2 : ∀ {β : Type} (k : Option β), pIn (nI s) 10 k = k := fun k => pIn_n (by omega) (by omega)
  have f1 : fX1_bytes 24 = 2 := by decide
  have f2 : fX1_makesFlags 24 = 0 := by decide
  have f3 : fX1_endsBlock 24 = 1 := by decide
  have u1 : ∀ x : Int32, upd st 9 x d = st d := fun x => pk_un (by omega)
  have u2 : ∀ x : Int32, upd st 9 x s = st s := fun x => pk_un (by omega)
  rw [hwv] at e6
  rw [show nI 3 = (3 : Int32) from rfl] at e6
  have u9_6 : ∀ x : Int32, upd st 9 x 6 = st 6 := fun x => pk_un (by omega)
  have q1 : (2 : Int32) < 3 := by decide
  have q2 : ¬ (4 : Int32) < 3 := by decide
  have q3 : (3 : Int32) &&& 1 = 1 := by decide
  simp only [-Int32.reduceToNatClampNeg, pLet_e, pB_e2, fX2_execute_e, fX2_move_e, fX2_move_b187_e, fX2_steer_e, fX2_push_e, fX2_pop_e, fX2_write_e, fX2_give_e, fX2_give_b26_e, fX2_jumpIf_e, fX2_jumpIf_b21_e, fX2_countDown_e, gG_state_t, sG_state_t, gG_memory_t, sG_memory_t, gG_inputs_t, sG_inputs_t, gG_outputs_t, sG_outputs_t, gG_given_t, sG_given_t, gG_written_t, sG_written_t, j0, j1, j2, j3, j4, j5, j6, j7, j8, j9, j10, j11, j12, p10_0, p10_1, p10_2, p10_3, p10_4, p10_5, p10_6, p10_7, p10_8, p10_9, e1, e2, e3, e5, e6, c1, c2, g1, g2, f1, f2, f3, u1, u2, if_true, if_false, ne_24_0, ne_24_1, ne_24_2, ne_24_3, ne_24_4, ne_24_5, ne_24_6, ne_24_7, ne_24_8, ne_24_9, ne_24_10, ne_24_11, ne_24_12, ne_24_13, ne_24_14, ne_24_15, ne_24_16, ne_24_17, ne_24_18, ne_24_19, ne_24_20, ne_24_21, ne_24_22, ne_24_23, ne_24_25, ne_24_26, ne_24_27, ne_24_28, ne_24_29, ne_1_0, q1, q2, q3, u9_6, hfl]
set_option maxRecDepth 20000 in
theorem ex_24_3f {st mem outs : Nat → Int32} {iq : TQ} {gv wr : Int32} {b n d s : Nat} (hb : b < 256) (hn : n < 256) (hk : kC b = 24) (hde : b / 4 % 4 = d) (hse : b % 4 = s) (hwv : b % 16 = 3) (hfl : ¬ st 6 = 1) :
    fX2_execute (st, mem, iq, outs, gv, wr) (nI (wd b n false)) = some ((upd st 9 ((st 9 + 2) &&& 255)), mem, iq, outs, gv, wr) := by
  have e1 : fX1_kind (nI (wd b n false)) = 24 := kC_7 hb hn hk rfl
  have e2 := w_d (dd := false) hb hn
  have e3 := w_s (dd := false) hb hn
  have e5 := w_n (dd := false) hb hn
  have e6 := w_w (dd := false) hb hn
  generalize nI (wd b n false) = w at e1 e2 e3 e5 e6
  have hd : b / 4 % 4 < 4 := by omega
  have hs : b % 4 < 4 := by omega
  rw [hde] at e2 hd
  rw [hse] at e3 hs
  have c1 : (nI d).toNatClampNeg = d := cl_n (by omega)
  have c2 : (nI s).toNatClampNeg = s := cl_n (by omega)
  have g1 : ∀ {β : Type} (k : Option β), pIn (nI d) 10 k = k := fun k => pIn_n (by omega) (by omega)
  have g2 : ∀ {β : Type} (k : Option β), pIn (nI s) 10 k = k := fun k => pIn_n (by omega) (by omega)
  have f1 : fX1_bytes 24 = 2 := by decide
  have f2 : fX1_makesFlags 24 = 0 := by decide
  have f3 : fX1_endsBlock 24 = 1 := by decide
  have u1 : ∀ x : Int32, upd st 9 x d = st d := fun x => pk_un (by omega)
  have u2 : ∀ x : Int32, upd st 9 x s = st s := fun x => pk_un (by omega)
  rw [hwv] at e6
  rw [show nI 3 = (3 : Int32) from rfl] at e6
  have u9_6 : ∀ x : Int32, upd st 9 x 6 = st 6 := fun x => pk_un (by omega)
  have q1 : (2 : Int32) < 3 := by decide
  have q2 : ¬ (4 : Int32) < 3 := by decide
  have q3 : (3 : Int32) &&& 1 = 1 := by decide
  simp only [-Int32.reduceToNatClampNeg, pLet_e, pB_e2, fX2_execute_e, fX2_move_e, fX2_move_b187_e, fX2_steer_e, fX2_push_e, fX2_pop_e, fX2_write_e, fX2_give_e, fX2_give_b26_e, fX2_jumpIf_e, fX2_jumpIf_b21_e, fX2_countDown_e, gG_state_t, sG_state_t, gG_memory_t, sG_memory_t, gG_inputs_t, sG_inputs_t, gG_outputs_t, sG_outputs_t, gG_given_t, sG_given_t, gG_written_t, sG_written_t, j0, j1, j2, j3, j4, j5, j6, j7, j8, j9, j10, j11, j12, p10_0, p10_1, p10_2, p10_3, p10_4, p10_5, p10_6, p10_7, p10_8, p10_9, e1, e2, e3, e5, e6, c1, c2, g1, g2, f1, f2, f3, u1, u2, if_true, if_false, ne_24_0, ne_24_1, ne_24_2, ne_24_3, ne_24_4, ne_24_5, ne_24_6, ne_24_7, ne_24_8, ne_24_9, ne_24_10, ne_24_11, ne_24_12, ne_24_13, ne_24_14, ne_24_15, ne_24_16, ne_24_17, ne_24_18, ne_24_19, ne_24_20, ne_24_21, ne_24_22, ne_24_23, ne_24_25, ne_24_26, ne_24_27, ne_24_28, ne_24_29, ne_1_0, q1, q2, q3, u9_6, hfl]
set_option maxRecDepth 20000 in
theorem ex_24_4t {st mem outs : Nat → Int32} {iq : TQ} {gv wr : Int32} {b n d s : Nat} (hb : b < 256) (hn : n < 256) (hk : kC b = 24) (hde : b / 4 % 4 = d) (hse : b % 4 = s) (hwv : b % 16 = 4) (hfl : st 6 = 0) :
    fX2_execute (st, mem, iq, outs, gv, wr) (nI (wd b n false)) = some (upd (upd st 9 ((st 9 + 2) &&& 255)) 9 (nI n), mem, iq, outs, gv, wr) := by
  have e1 : fX1_kind (nI (wd b n false)) = 24 := kC_7 hb hn hk rfl
  have e2 := w_d (dd := false) hb hn
  have e3 := w_s (dd := false) hb hn
  have e5 := w_n (dd := false) hb hn
  have e6 := w_w (dd := false) hb hn
  generalize nI (wd b n false) = w at e1 e2 e3 e5 e6
  have hd : b / 4 % 4 < 4 := by omega
  have hs : b % 4 < 4 := by omega
  rw [hde] at e2 hd
  rw [hse] at e3 hs
  have c1 : (nI d).toNatClampNeg = d := cl_n (by omega)
  have c2 : (nI s).toNatClampNeg = s := cl_n (by omega)
  have g1 : ∀ {β : Type} (k : Option β), pIn (nI d) 10 k = k := fun k => pIn_n (by omega) (by omega)
  have g2 : ∀ {β : Type} (k : Option β), pIn (nI s) 10 k = k := fun k => pIn_n (by omega) (by omega)
  have f1 : fX1_bytes 24 = 2 := by decide
  have f2 : fX1_makesFlags 24 = 0 := by decide
  have f3 : fX1_endsBlock 24 = 1 := by decide
  have u1 : ∀ x : Int32, upd st 9 x d = st d := fun x => pk_un (by omega)
  have u2 : ∀ x : Int32, upd st 9 x s = st s := fun x => pk_un (by omega)
  rw [hwv] at e6
  rw [show nI 4 = (4 : Int32) from rfl] at e6
  have u9_6 : ∀ x : Int32, upd st 9 x 6 = st 6 := fun x => pk_un (by omega)
  have q1 : (2 : Int32) < 4 := by decide
  have q2 : ¬ (4 : Int32) < 4 := by decide
  have q3 : (4 : Int32) &&& 1 = 0 := by decide
  simp only [-Int32.reduceToNatClampNeg, pLet_e, pB_e2, fX2_execute_e, fX2_move_e, fX2_move_b187_e, fX2_steer_e, fX2_push_e, fX2_pop_e, fX2_write_e, fX2_give_e, fX2_give_b26_e, fX2_jumpIf_e, fX2_jumpIf_b21_e, fX2_countDown_e, gG_state_t, sG_state_t, gG_memory_t, sG_memory_t, gG_inputs_t, sG_inputs_t, gG_outputs_t, sG_outputs_t, gG_given_t, sG_given_t, gG_written_t, sG_written_t, j0, j1, j2, j3, j4, j5, j6, j7, j8, j9, j10, j11, j12, p10_0, p10_1, p10_2, p10_3, p10_4, p10_5, p10_6, p10_7, p10_8, p10_9, e1, e2, e3, e5, e6, c1, c2, g1, g2, f1, f2, f3, u1, u2, if_true, if_false, ne_24_0, ne_24_1, ne_24_2, ne_24_3, ne_24_4, ne_24_5, ne_24_6, ne_24_7, ne_24_8, ne_24_9, ne_24_10, ne_24_11, ne_24_12, ne_24_13, ne_24_14, ne_24_15, ne_24_16, ne_24_17, ne_24_18, ne_24_19, ne_24_20, ne_24_21, ne_24_22, ne_24_23, ne_24_25, ne_24_26, ne_24_27, ne_24_28, ne_24_29, ne_1_0, q1, q2, q3, u9_6, hfl]
set_option maxRecDepth 20000 in
theorem ex_24_4f {st mem outs : Nat → Int32} {iq : TQ} {gv wr : Int32} {b n d s : Nat} (hb : b < 256) (hn : n < 256) (hk : kC b = 24) (hde : b / 4 % 4 = d) (hse : b % 4 = s) (hwv : b % 16 = 4) (hfl : ¬ st 6 = 0) :
    fX2_execute (st, mem, iq, outs, gv, wr) (nI (wd b n false)) = some ((upd st 9 ((st 9 + 2) &&& 255)), mem, iq, outs, gv, wr) := by
  have e1 : fX1_kind (nI (wd b n false)) = 24 := kC_7 hb hn hk rfl
  have e2 := w_d (dd := false) hb hn
  have e3 := w_s (dd := false) hb hn
  have e5 := w_n (dd := false) hb hn
  have e6 := w_w (dd := false) hb hn
  generalize nI (wd b n false) = w at e1 e2 e3 e5 e6
  have hd : b / 4 % 4 < 4 := by omega
  have hs : b % 4 < 4 := by omega
  rw [hde] at e2 hd
  rw [hse] at e3 hs
  have c1 : (nI d).toNatClampNeg = d := cl_n (by omega)
  have c2 : (nI s).toNatClampNeg = s := cl_n (by omega)
  have g1 : ∀ {β : Type} (k : Option β), pIn (nI d) 10 k = k := fun k => pIn_n (by omega) (by omega)
  have g2 : ∀ {β : Type} (k : Option β), pIn (nI s) 10 k = k := fun k => pIn_n (by omega) (by omega)
  have f1 : fX1_bytes 24 = 2 := by decide
  have f2 : fX1_makesFlags 24 = 0 := by decide
  have f3 : fX1_endsBlock 24 = 1 := by decide
  have u1 : ∀ x : Int32, upd st 9 x d = st d := fun x => pk_un (by omega)
  have u2 : ∀ x : Int32, upd st 9 x s = st s := fun x => pk_un (by omega)
  rw [hwv] at e6
  rw [show nI 4 = (4 : Int32) from rfl] at e6
  have u9_6 : ∀ x : Int32, upd st 9 x 6 = st 6 := fun x => pk_un (by omega)
  have q1 : (2 : Int32) < 4 := by decide
  have q2 : ¬ (4 : Int32) < 4 := by decide
  have q3 : (4 : Int32) &&& 1 = 0 := by decide
  simp only [-Int32.reduceToNatClampNeg, pLet_e, pB_e2, fX2_execute_e, fX2_move_e, fX2_move_b187_e, fX2_steer_e, fX2_push_e, fX2_pop_e, fX2_write_e, fX2_give_e, fX2_give_b26_e, fX2_jumpIf_e, fX2_jumpIf_b21_e, fX2_countDown_e, gG_state_t, sG_state_t, gG_memory_t, sG_memory_t, gG_inputs_t, sG_inputs_t, gG_outputs_t, sG_outputs_t, gG_given_t, sG_given_t, gG_written_t, sG_written_t, j0, j1, j2, j3, j4, j5, j6, j7, j8, j9, j10, j11, j12, p10_0, p10_1, p10_2, p10_3, p10_4, p10_5, p10_6, p10_7, p10_8, p10_9, e1, e2, e3, e5, e6, c1, c2, g1, g2, f1, f2, f3, u1, u2, if_true, if_false, ne_24_0, ne_24_1, ne_24_2, ne_24_3, ne_24_4, ne_24_5, ne_24_6, ne_24_7, ne_24_8, ne_24_9, ne_24_10, ne_24_11, ne_24_12, ne_24_13, ne_24_14, ne_24_15, ne_24_16, ne_24_17, ne_24_18, ne_24_19, ne_24_20, ne_24_21, ne_24_22, ne_24_23, ne_24_25, ne_24_26, ne_24_27, ne_24_28, ne_24_29, ne_1_0, q1, q2, q3, u9_6, hfl]
set_option maxRecDepth 20000 in
theorem ex_24_5t {st mem outs : Nat → Int32} {iq : TQ} {gv wr : Int32} {b n d s : Nat} (hb : b < 256) (hn : n < 256) (hk : kC b = 24) (hde : b / 4 % 4 = d) (hse : b % 4 = s) (hwv : b % 16 = 5) (hfl : st 7 = 1) :
    fX2_execute (st, mem, iq, outs, gv, wr) (nI (wd b n false)) = some (upd (upd st 9 ((st 9 + 2) &&& 255)) 9 (nI n), mem, iq, outs, gv, wr) := by
  have e1 : fX1_kind (nI (wd b n false)) = 24 := kC_7 hb hn hk rfl
  have e2 := w_d (dd := false) hb hn
  have e3 := w_s (dd := false) hb hn
  have e5 := w_n (dd := false) hb hn
  have e6 := w_w (dd := false) hb hn
  generalize nI (wd b n false) = w at e1 e2 e3 e5 e6
  have hd : b / 4 % 4 < 4 := by omega
  have hs : b % 4 < 4 := by omega
  rw [hde] at e2 hd
  rw [hse] at e3 hs
  have c1 : (nI d).toNatClampNeg = d := cl_n (by omega)
  have c2 : (nI s).toNatClampNeg = s := cl_n (by omega)
  have g1 : ∀ {β : Type} (k : Option β), pIn (nI d) 10 k = k := fun k => pIn_n (by omega) (by omega)
  have g2 : ∀ {β : Type} (k : Option β), pIn (nI s) 10 k = k := fun k => pIn_n (by omega) (by omega)
  have f1 : fX1_bytes 24 = 2 := by decide
  have f2 : fX1_makesFlags 24 = 0 := by decide
  have f3 : fX1_endsBlock 24 = 1 := by decide
  have u1 : ∀ x : Int32, upd st 9 x d = st d := fun x => pk_un (by omega)
  have u2 : ∀ x : Int32, upd st 9 x s = st s := fun x => pk_un (by omega)
  rw [hwv] at e6
  rw [show nI 5 = (5 : Int32) from rfl] at e6
  have u9_7 : ∀ x : Int32, upd st 9 x 7 = st 7 := fun x => pk_un (by omega)
  have q1 : (2 : Int32) < 5 := by decide
  have q2 : (4 : Int32) < 5 := by decide
  have q3 : (5 : Int32) &&& 1 = 1 := by decide
  simp only [-Int32.reduceToNatClampNeg, pLet_e, pB_e2, fX2_execute_e, fX2_move_e, fX2_move_b187_e, fX2_steer_e, fX2_push_e, fX2_pop_e, fX2_write_e, fX2_give_e, fX2_give_b26_e, fX2_jumpIf_e, fX2_jumpIf_b21_e, fX2_countDown_e, gG_state_t, sG_state_t, gG_memory_t, sG_memory_t, gG_inputs_t, sG_inputs_t, gG_outputs_t, sG_outputs_t, gG_given_t, sG_given_t, gG_written_t, sG_written_t, j0, j1, j2, j3, j4, j5, j6, j7, j8, j9, j10, j11, j12, p10_0, p10_1, p10_2, p10_3, p10_4, p10_5, p10_6, p10_7, p10_8, p10_9, e1, e2, e3, e5, e6, c1, c2, g1, g2, f1, f2, f3, u1, u2, if_true, if_false, ne_24_0, ne_24_1, ne_24_2, ne_24_3, ne_24_4, ne_24_5, ne_24_6, ne_24_7, ne_24_8, ne_24_9, ne_24_10, ne_24_11, ne_24_12, ne_24_13, ne_24_14, ne_24_15, ne_24_16, ne_24_17, ne_24_18, ne_24_19, ne_24_20, ne_24_21, ne_24_22, ne_24_23, ne_24_25, ne_24_26, ne_24_27, ne_24_28, ne_24_29, ne_1_0, q1, q2, q3, u9_7, hfl]
set_option maxRecDepth 20000 in
theorem ex_24_5f {st mem outs : Nat → Int32} {iq : TQ} {gv wr : Int32} {b n d s : Nat} (hb : b < 256) (hn : n < 256) (hk : kC b = 24) (hde : b / 4 % 4 = d) (hse : b % 4 = s) (hwv : b % 16 = 5) (hfl : ¬ st 7 = 1) :
    fX2_execute (st, mem, iq, outs, gv, wr) (nI (wd b n false)) = some ((upd st 9 ((st 9 + 2) &&& 255)), mem, iq, outs, gv, wr) := by
  have e1 : fX1_kind (nI (wd b n false)) = 24 := kC_7 hb hn hk rfl
  have e2 := w_d (dd := false) hb hn
  have e3 := w_s (dd := false) hb hn
  have e5 := w_n (dd := false) hb hn
  have e6 := w_w (dd := false) hb hn
  generalize nI (wd b n false) = w at e1 e2 e3 e5 e6
  have hd : b / 4 % 4 < 4 := by omega
  have hs : b % 4 < 4 := by omega
  rw [hde] at e2 hd
  rw [hse] at e3 hs
  have c1 : (nI d).toNatClampNeg = d := cl_n (by omega)
  have c2 : (nI s).toNatClampNeg = s := cl_n (by omega)
  have g1 : ∀ {β : Type} (k : Option β), pIn (nI d) 10 k = k := fun k => pIn_n (by omega) (by omega)
  have g2 : ∀ {β : Type} (k : Option β), pIn (nI s) 10 k = k := fun k => pIn_n (by omega) (by omega)
  have f1 : fX1_bytes 24 = 2 := by decide
  have f2 : fX1_makesFlags 24 = 0 := by decide
  have f3 : fX1_endsBlock 24 = 1 := by decide
  have u1 : ∀ x : Int32, upd st 9 x d = st d := fun x => pk_un (by omega)
  have u2 : ∀ x : Int32, upd st 9 x s = st s := fun x => pk_un (by omega)
  rw [hwv] at e6
  rw [show nI 5 = (5 : Int32) from rfl] at e6
  have u9_7 : ∀ x : Int32, upd st 9 x 7 = st 7 := fun x => pk_un (by omega)
  have q1 : (2 : Int32) < 5 := by decide
  have q2 : (4 : Int32) < 5 := by decide
  have q3 : (5 : Int32) &&& 1 = 1 := by decide
  simp only [-Int32.reduceToNatClampNeg, pLet_e, pB_e2, fX2_execute_e, fX2_move_e, fX2_move_b187_e, fX2_steer_e, fX2_push_e, fX2_pop_e, fX2_write_e, fX2_give_e, fX2_give_b26_e, fX2_jumpIf_e, fX2_jumpIf_b21_e, fX2_countDown_e, gG_state_t, sG_state_t, gG_memory_t, sG_memory_t, gG_inputs_t, sG_inputs_t, gG_outputs_t, sG_outputs_t, gG_given_t, sG_given_t, gG_written_t, sG_written_t, j0, j1, j2, j3, j4, j5, j6, j7, j8, j9, j10, j11, j12, p10_0, p10_1, p10_2, p10_3, p10_4, p10_5, p10_6, p10_7, p10_8, p10_9, e1, e2, e3, e5, e6, c1, c2, g1, g2, f1, f2, f3, u1, u2, if_true, if_false, ne_24_0, ne_24_1, ne_24_2, ne_24_3, ne_24_4, ne_24_5, ne_24_6, ne_24_7, ne_24_8, ne_24_9, ne_24_10, ne_24_11, ne_24_12, ne_24_13, ne_24_14, ne_24_15, ne_24_16, ne_24_17, ne_24_18, ne_24_19, ne_24_20, ne_24_21, ne_24_22, ne_24_23, ne_24_25, ne_24_26, ne_24_27, ne_24_28, ne_24_29, ne_1_0, q1, q2, q3, u9_7, hfl]
set_option maxRecDepth 20000 in
theorem ex_24_6t {st mem outs : Nat → Int32} {iq : TQ} {gv wr : Int32} {b n d s : Nat} (hb : b < 256) (hn : n < 256) (hk : kC b = 24) (hde : b / 4 % 4 = d) (hse : b % 4 = s) (hwv : b % 16 = 6) (hfl : st 7 = 0) :
    fX2_execute (st, mem, iq, outs, gv, wr) (nI (wd b n false)) = some (upd (upd st 9 ((st 9 + 2) &&& 255)) 9 (nI n), mem, iq, outs, gv, wr) := by
  have e1 : fX1_kind (nI (wd b n false)) = 24 := kC_7 hb hn hk rfl
  have e2 := w_d (dd := false) hb hn
  have e3 := w_s (dd := false) hb hn
  have e5 := w_n (dd := false) hb hn
  have e6 := w_w (dd := false) hb hn
  generalize nI (wd b n false) = w at e1 e2 e3 e5 e6
  have hd : b / 4 % 4 < 4 := by omega
  have hs : b % 4 < 4 := by omega
  rw [hde] at e2 hd
  rw [hse] at e3 hs
  have c1 : (nI d).toNatClampNeg = d := cl_n (by omega)
  have c2 : (nI s).toNatClampNeg = s := cl_n (by omega)
  have g1 : ∀ {β : Type} (k : Option β), pIn (nI d) 10 k = k := fun k => pIn_n (by omega) (by omega)
  have g2 : ∀ {β : Type} (k : Option β), pIn (nI s) 10 k = k := fun k => pIn_n (by omega) (by omega)
  have f1 : fX1_bytes 24 = 2 := by decide
  have f2 : fX1_makesFlags 24 = 0 := by decide
  have f3 : fX1_endsBlock 24 = 1 := by decide
  have u1 : ∀ x : Int32, upd st 9 x d = st d := fun x => pk_un (by omega)
  have u2 : ∀ x : Int32, upd st 9 x s = st s := fun x => pk_un (by omega)
  rw [hwv] at e6
  rw [show nI 6 = (6 : Int32) from rfl] at e6
  have u9_7 : ∀ x : Int32, upd st 9 x 7 = st 7 := fun x => pk_un (by omega)
  have q1 : (2 : Int32) < 6 := by decide
  have q2 : (4 : Int32) < 6 := by decide
  have q3 : (6 : Int32) &&& 1 = 0 := by decide
  simp only [-Int32.reduceToNatClampNeg, pLet_e, pB_e2, fX2_execute_e, fX2_move_e, fX2_move_b187_e, fX2_steer_e, fX2_push_e, fX2_pop_e, fX2_write_e, fX2_give_e, fX2_give_b26_e, fX2_jumpIf_e, fX2_jumpIf_b21_e, fX2_countDown_e, gG_state_t, sG_state_t, gG_memory_t, sG_memory_t, gG_inputs_t, sG_inputs_t, gG_outputs_t, sG_outputs_t, gG_given_t, sG_given_t, gG_written_t, sG_written_t, j0, j1, j2, j3, j4, j5, j6, j7, j8, j9, j10, j11, j12, p10_0, p10_1, p10_2, p10_3, p10_4, p10_5, p10_6, p10_7, p10_8, p10_9, e1, e2, e3, e5, e6, c1, c2, g1, g2, f1, f2, f3, u1, u2, if_true, if_false, ne_24_0, ne_24_1, ne_24_2, ne_24_3, ne_24_4, ne_24_5, ne_24_6, ne_24_7, ne_24_8, ne_24_9, ne_24_10, ne_24_11, ne_24_12, ne_24_13, ne_24_14, ne_24_15, ne_24_16, ne_24_17, ne_24_18, ne_24_19, ne_24_20, ne_24_21, ne_24_22, ne_24_23, ne_24_25, ne_24_26, ne_24_27, ne_24_28, ne_24_29, ne_1_0, q1, q2, q3, u9_7, hfl]
set_option maxRecDepth 20000 in
theorem ex_24_6f {st mem outs : Nat → Int32} {iq : TQ} {gv wr : Int32} {b n d s : Nat} (hb : b < 256) (hn : n < 256) (hk : kC b = 24) (hde : b / 4 % 4 = d) (hse : b % 4 = s) (hwv : b % 16 = 6) (hfl : ¬ st 7 = 0) :
    fX2_execute (st, mem, iq, outs, gv, wr) (nI (wd b n false)) = some ((upd st 9 ((st 9 + 2) &&& 255)), mem, iq, outs, gv, wr) := by
  have e1 : fX1_kind (nI (wd b n false)) = 24 := kC_7 hb hn hk rfl
  have e2 := w_d (dd := false) hb hn
  have e3 := w_s (dd := false) hb hn
  have e5 := w_n (dd := false) hb hn
  have e6 := w_w (dd := false) hb hn
  generalize nI (wd b n false) = w at e1 e2 e3 e5 e6
  have hd : b / 4 % 4 < 4 := by omega
  have hs : b % 4 < 4 := by omega
  rw [hde] at e2 hd
  rw [hse] at e3 hs
  have c1 : (nI d).toNatClampNeg = d := cl_n (by omega)
  have c2 : (nI s).toNatClampNeg = s := cl_n (by omega)
  have g1 : ∀ {β : Type} (k : Option β), pIn (nI d) 10 k = k := fun k => pIn_n (by omega) (by omega)
  have g2 : ∀ {β : Type} (k : Option β), pIn (nI s) 10 k = k := fun k => pIn_n (by omega) (by omega)
  have f1 : fX1_bytes 24 = 2 := by decide
  have f2 : fX1_makesFlags 24 = 0 := by decide
  have f3 : fX1_endsBlock 24 = 1 := by decide
  have u1 : ∀ x : Int32, upd st 9 x d = st d := fun x => pk_un (by omega)
  have u2 : ∀ x : Int32, upd st 9 x s = st s := fun x => pk_un (by omega)
  rw [hwv] at e6
  rw [show nI 6 = (6 : Int32) from rfl] at e6
  have u9_7 : ∀ x : Int32, upd st 9 x 7 = st 7 := fun x => pk_un (by omega)
  have q1 : (2 : Int32) < 6 := by decide
  have q2 : (4 : Int32) < 6 := by decide
  have q3 : (6 : Int32) &&& 1 = 0 := by decide
  simp only [-Int32.reduceToNatClampNeg, pLet_e, pB_e2, fX2_execute_e, fX2_move_e, fX2_move_b187_e, fX2_steer_e, fX2_push_e, fX2_pop_e, fX2_write_e, fX2_give_e, fX2_give_b26_e, fX2_jumpIf_e, fX2_jumpIf_b21_e, fX2_countDown_e, gG_state_t, sG_state_t, gG_memory_t, sG_memory_t, gG_inputs_t, sG_inputs_t, gG_outputs_t, sG_outputs_t, gG_given_t, sG_given_t, gG_written_t, sG_written_t, j0, j1, j2, j3, j4, j5, j6, j7, j8, j9, j10, j11, j12, p10_0, p10_1, p10_2, p10_3, p10_4, p10_5, p10_6, p10_7, p10_8, p10_9, e1, e2, e3, e5, e6, c1, c2, g1, g2, f1, f2, f3, u1, u2, if_true, if_false, ne_24_0, ne_24_1, ne_24_2, ne_24_3, ne_24_4, ne_24_5, ne_24_6, ne_24_7, ne_24_8, ne_24_9, ne_24_10, ne_24_11, ne_24_12, ne_24_13, ne_24_14, ne_24_15, ne_24_16, ne_24_17, ne_24_18, ne_24_19, ne_24_20, ne_24_21, ne_24_22, ne_24_23, ne_24_25, ne_24_26, ne_24_27, ne_24_28, ne_24_29, ne_1_0, q1, q2, q3, u9_7, hfl]
set_option maxRecDepth 20000 in
theorem ex_25 {st mem outs : Nat → Int32} {iq : TQ} {gv wr : Int32} {b n d s : Nat} (hb : b < 256) (hn : n < 256) (hk : kC b = 25) (hde : b / 4 % 4 = d) (hse : b % 4 = s) {sp : Nat} (hsp : sp < 256) (hspe : (st 4 - 1) &&& 255 = nI sp) :
    fX2_execute (st, mem, iq, outs, gv, wr) (nI (wd b n false)) = some (upd (upd (upd st 9 ((st 9 + 2) &&& 255)) 4 (nI sp)) 9 (nI n), upd mem sp ((st 9 + 2) &&& 255), iq, outs, gv, nI sp) := by
  have e1 : fX1_kind (nI (wd b n false)) = 25 := kC_7 hb hn hk rfl
  have e2 := w_d (dd := false) hb hn
  have e3 := w_s (dd := false) hb hn
  have e5 := w_n (dd := false) hb hn
  have e6 := w_w (dd := false) hb hn
  generalize nI (wd b n false) = w at e1 e2 e3 e5 e6
  have hd : b / 4 % 4 < 4 := by omega
  have hs : b % 4 < 4 := by omega
  rw [hde] at e2 hd
  rw [hse] at e3 hs
  have c1 : (nI d).toNatClampNeg = d := cl_n (by omega)
  have c2 : (nI s).toNatClampNeg = s := cl_n (by omega)
  have g1 : ∀ {β : Type} (k : Option β), pIn (nI d) 10 k = k := fun k => pIn_n (by omega) (by omega)
  have g2 : ∀ {β : Type} (k : Option β), pIn (nI s) 10 k = k := fun k => pIn_n (by omega) (by omega)
  have f1 : fX1_bytes 25 = 2 := by decide
  have f2 : fX1_makesFlags 25 = 0 := by decide
  have f3 : fX1_endsBlock 25 = 1 := by decide
  have u1 : ∀ x : Int32, upd st 9 x d = st d := fun x => pk_un (by omega)
  have u2 : ∀ x : Int32, upd st 9 x s = st s := fun x => pk_un (by omega)
  have u9_4 : ∀ x : Int32, upd st 9 x 4 = st 4 := fun x => pk_un (by omega)
  have g3 : ∀ {β : Type} (k : Option β), pIn (nI sp) 256 k = k := fun k => pIn_n (by omega) (by omega)
  have c3 : (nI sp).toNatClampNeg = sp := cl_n (by omega)
  simp only [-Int32.reduceToNatClampNeg, pLet_e, pB_e2, fX2_execute_e, fX2_move_e, fX2_move_b187_e, fX2_steer_e, fX2_push_e, fX2_pop_e, fX2_write_e, fX2_give_e, fX2_give_b26_e, fX2_jumpIf_e, fX2_jumpIf_b21_e, fX2_countDown_e, gG_state_t, sG_state_t, gG_memory_t, sG_memory_t, gG_inputs_t, sG_inputs_t, gG_outputs_t, sG_outputs_t, gG_given_t, sG_given_t, gG_written_t, sG_written_t, j0, j1, j2, j3, j4, j5, j6, j7, j8, j9, j10, j11, j12, p10_0, p10_1, p10_2, p10_3, p10_4, p10_5, p10_6, p10_7, p10_8, p10_9, e1, e2, e3, e5, e6, c1, c2, g1, g2, f1, f2, f3, u1, u2, if_true, if_false, ne_25_0, ne_25_1, ne_25_2, ne_25_3, ne_25_4, ne_25_5, ne_25_6, ne_25_7, ne_25_8, ne_25_9, ne_25_10, ne_25_11, ne_25_12, ne_25_13, ne_25_14, ne_25_15, ne_25_16, ne_25_17, ne_25_18, ne_25_19, ne_25_20, ne_25_21, ne_25_22, ne_25_23, ne_25_24, ne_25_26, ne_25_27, ne_25_28, ne_25_29, ne_1_0, u9_4, hspe, g3, c3, pk_us]
set_option maxRecDepth 20000 in
theorem ex_27 {st mem outs : Nat → Int32} {iq : TQ} {gv wr : Int32} {b n d s : Nat} (hb : b < 256) (hn : n < 256) (hk : kC b = 27) (hde : b / 4 % 4 = d) (hse : b % 4 = s) {sp : Nat} (hsp : sp < 256) (hspe : (st 4 - 1) &&& 255 = nI sp) :
    fX2_execute (st, mem, iq, outs, gv, wr) (nI (wd b n false)) = some (upd (upd st 9 ((st 9 + 1) &&& 255)) 4 (nI sp), upd mem sp (st d), iq, outs, gv, nI sp) := by
  have e1 : fX1_kind (nI (wd b n false)) = 27 := kC_7 hb hn hk rfl
  have e2 := w_d (dd := false) hb hn
  have e3 := w_s (dd := false) hb hn
  have e5 := w_n (dd := false) hb hn
  have e6 := w_w (dd := false) hb hn
  generalize nI (wd b n false) = w at e1 e2 e3 e5 e6
  have hd : b / 4 % 4 < 4 := by omega
  have hs : b % 4 < 4 := by omega
  rw [hde] at e2 hd
  rw [hse] at e3 hs
  have c1 : (nI d).toNatClampNeg = d := cl_n (by omega)
  have c2 : (nI s).toNatClampNeg = s := cl_n (by omega)
  have g1 : ∀ {β : Type} (k : Option β), pIn (nI d) 10 k = k := fun k => pIn_n (by omega) (by omega)
  have g2 : ∀ {β : Type} (k : Option β), pIn (nI s) 10 k = k := fun k => pIn_n (by omega) (by omega)
  have f1 : fX1_bytes 27 = 1 := by decide
  have f2 : fX1_makesFlags 27 = 0 := by decide
  have f3 : fX1_endsBlock 27 = 0 := by decide
  have u1 : ∀ x : Int32, upd st 9 x d = st d := fun x => pk_un (by omega)
  have u2 : ∀ x : Int32, upd st 9 x s = st s := fun x => pk_un (by omega)
  have u9_4 : ∀ x : Int32, upd st 9 x 4 = st 4 := fun x => pk_un (by omega)
  have g3 : ∀ {β : Type} (k : Option β), pIn (nI sp) 256 k = k := fun k => pIn_n (by omega) (by omega)
  have c3 : (nI sp).toNatClampNeg = sp := cl_n (by omega)
  simp only [-Int32.reduceToNatClampNeg, pLet_e, pB_e2, fX2_execute_e, fX2_move_e, fX2_move_b187_e, fX2_steer_e, fX2_push_e, fX2_pop_e, fX2_write_e, fX2_give_e, fX2_give_b26_e, fX2_jumpIf_e, fX2_jumpIf_b21_e, fX2_countDown_e, gG_state_t, sG_state_t, gG_memory_t, sG_memory_t, gG_inputs_t, sG_inputs_t, gG_outputs_t, sG_outputs_t, gG_given_t, sG_given_t, gG_written_t, sG_written_t, j0, j1, j2, j3, j4, j5, j6, j7, j8, j9, j10, j11, j12, p10_0, p10_1, p10_2, p10_3, p10_4, p10_5, p10_6, p10_7, p10_8, p10_9, e1, e2, e3, e5, e6, c1, c2, g1, g2, f1, f2, f3, u1, u2, if_true, if_false, ne_27_0, ne_27_1, ne_27_2, ne_27_3, ne_27_4, ne_27_5, ne_27_6, ne_27_7, ne_27_8, ne_27_9, ne_27_10, ne_27_11, ne_27_12, ne_27_13, ne_27_14, ne_27_15, ne_27_16, ne_27_17, ne_27_18, ne_27_19, ne_27_20, ne_27_21, ne_27_22, ne_27_23, ne_27_24, ne_27_25, ne_27_26, ne_27_28, ne_27_29, ne_1_0, u9_4, hspe, g3, c3, pk_us]
set_option maxRecDepth 20000 in
theorem ex_26 {st mem outs : Nat → Int32} {iq : TQ} {gv wr : Int32} {b n d s : Nat} (hb : b < 256) (hn : n < 256) (hk : kC b = 26) (hde : b / 4 % 4 = d) (hse : b % 4 = s) {sp : Nat} (hsp : sp < 256) (hspe : st 4 = nI sp) :
    fX2_execute (st, mem, iq, outs, gv, wr) (nI (wd b n false)) = some (upd (upd (upd st 9 ((st 9 + 1) &&& 255)) 4 ((nI sp + 1) &&& 255)) 9 (mem sp), mem, iq, outs, gv, wr) := by
  have e1 : fX1_kind (nI (wd b n false)) = 26 := kC_7 hb hn hk rfl
  have e2 := w_d (dd := false) hb hn
  have e3 := w_s (dd := false) hb hn
  have e5 := w_n (dd := false) hb hn
  have e6 := w_w (dd := false) hb hn
  generalize nI (wd b n false) = w at e1 e2 e3 e5 e6
  have hd : b / 4 % 4 < 4 := by omega
  have hs : b % 4 < 4 := by omega
  rw [hde] at e2 hd
  rw [hse] at e3 hs
  have c1 : (nI d).toNatClampNeg = d := cl_n (by omega)
  have c2 : (nI s).toNatClampNeg = s := cl_n (by omega)
  have g1 : ∀ {β : Type} (k : Option β), pIn (nI d) 10 k = k := fun k => pIn_n (by omega) (by omega)
  have g2 : ∀ {β : Type} (k : Option β), pIn (nI s) 10 k = k := fun k => pIn_n (by omega) (by omega)
  have f1 : fX1_bytes 26 = 1 := by decide
  have f2 : fX1_makesFlags 26 = 0 := by decide
  have f3 : fX1_endsBlock 26 = 1 := by decide
  have u1 : ∀ x : Int32, upd st 9 x d = st d := fun x => pk_un (by omega)
  have u2 : ∀ x : Int32, upd st 9 x s = st s := fun x => pk_un (by omega)
  have u9_4 : ∀ x : Int32, upd st 9 x 4 = st 4 := fun x => pk_un (by omega)
  have g3 : ∀ {β : Type} (k : Option β), pIn (nI sp) 256 k = k := fun k => pIn_n (by omega) (by omega)
  have c3 : (nI sp).toNatClampNeg = sp := cl_n (by omega)
  simp only [-Int32.reduceToNatClampNeg, pLet_e, pB_e2, fX2_execute_e, fX2_move_e, fX2_move_b187_e, fX2_steer_e, fX2_push_e, fX2_pop_e, fX2_write_e, fX2_give_e, fX2_give_b26_e, fX2_jumpIf_e, fX2_jumpIf_b21_e, fX2_countDown_e, gG_state_t, sG_state_t, gG_memory_t, sG_memory_t, gG_inputs_t, sG_inputs_t, gG_outputs_t, sG_outputs_t, gG_given_t, sG_given_t, gG_written_t, sG_written_t, j0, j1, j2, j3, j4, j5, j6, j7, j8, j9, j10, j11, j12, p10_0, p10_1, p10_2, p10_3, p10_4, p10_5, p10_6, p10_7, p10_8, p10_9, e1, e2, e3, e5, e6, c1, c2, g1, g2, f1, f2, f3, u1, u2, if_true, if_false, ne_26_0, ne_26_1, ne_26_2, ne_26_3, ne_26_4, ne_26_5, ne_26_6, ne_26_7, ne_26_8, ne_26_9, ne_26_10, ne_26_11, ne_26_12, ne_26_13, ne_26_14, ne_26_15, ne_26_16, ne_26_17, ne_26_18, ne_26_19, ne_26_20, ne_26_21, ne_26_22, ne_26_23, ne_26_24, ne_26_25, ne_26_27, ne_26_28, ne_26_29, ne_1_0, u9_4, hspe, g3, c3, pk_us]
set_option maxRecDepth 20000 in
theorem ex_28 {st mem outs : Nat → Int32} {iq : TQ} {gv wr : Int32} {b n d s : Nat} (hb : b < 256) (hn : n < 256) (hk : kC b = 28) (hde : b / 4 % 4 = d) (hse : b % 4 = s) {sp : Nat} (hsp : sp < 256) (hspe : st 4 = nI sp) :
    fX2_execute (st, mem, iq, outs, gv, wr) (nI (wd b n false)) = some (upd (upd (upd st 9 ((st 9 + 1) &&& 255)) 4 ((nI sp + 1) &&& 255)) d (mem sp), mem, iq, outs, gv, wr) := by
  have e1 : fX1_kind (nI (wd b n false)) = 28 := kC_7 hb hn hk rfl
  have e2 := w_d (dd := false) hb hn
  have e3 := w_s (dd := false) hb hn
  have e5 := w_n (dd := false) hb hn
  have e6 := w_w (dd := false) hb hn
  generalize nI (wd b n false) = w at e1 e2 e3 e5 e6
  have hd : b / 4 % 4 < 4 := by omega
  have hs : b % 4 < 4 := by omega
  rw [hde] at e2 hd
  rw [hse] at e3 hs
  have c1 : (nI d).toNatClampNeg = d := cl_n (by omega)
  have c2 : (nI s).toNatClampNeg = s := cl_n (by omega)
  have g1 : ∀ {β : Type} (k : Option β), pIn (nI d) 10 k = k := fun k => pIn_n (by omega) (by omega)
  have g2 : ∀ {β : Type} (k : Option β), pIn (nI s) 10 k = k := fun k => pIn_n (by omega) (by omega)
  have f1 : fX1_bytes 28 = 1 := by decide
  have f2 : fX1_makesFlags 28 = 0 := by decide
  have f3 : fX1_endsBlock 28 = 0 := by decide
  have u1 : ∀ x : Int32, upd st 9 x d = st d := fun x => pk_un (by omega)
  have u2 : ∀ x : Int32, upd st 9 x s = st s := fun x => pk_un (by omega)
  have u9_4 : ∀ x : Int32, upd st 9 x 4 = st 4 := fun x => pk_un (by omega)
  have g3 : ∀ {β : Type} (k : Option β), pIn (nI sp) 256 k = k := fun k => pIn_n (by omega) (by omega)
  have c3 : (nI sp).toNatClampNeg = sp := cl_n (by omega)
  simp only [-Int32.reduceToNatClampNeg, pLet_e, pB_e2, fX2_execute_e, fX2_move_e, fX2_move_b187_e, fX2_steer_e, fX2_push_e, fX2_pop_e, fX2_write_e, fX2_give_e, fX2_give_b26_e, fX2_jumpIf_e, fX2_jumpIf_b21_e, fX2_countDown_e, gG_state_t, sG_state_t, gG_memory_t, sG_memory_t, gG_inputs_t, sG_inputs_t, gG_outputs_t, sG_outputs_t, gG_given_t, sG_given_t, gG_written_t, sG_written_t, j0, j1, j2, j3, j4, j5, j6, j7, j8, j9, j10, j11, j12, p10_0, p10_1, p10_2, p10_3, p10_4, p10_5, p10_6, p10_7, p10_8, p10_9, e1, e2, e3, e5, e6, c1, c2, g1, g2, f1, f2, f3, u1, u2, if_true, if_false, ne_28_0, ne_28_1, ne_28_2, ne_28_3, ne_28_4, ne_28_5, ne_28_6, ne_28_7, ne_28_8, ne_28_9, ne_28_10, ne_28_11, ne_28_12, ne_28_13, ne_28_14, ne_28_15, ne_28_16, ne_28_17, ne_28_18, ne_28_19, ne_28_20, ne_28_21, ne_28_22, ne_28_23, ne_28_24, ne_28_25, ne_28_26, ne_28_27, ne_28_29, ne_1_0, u9_4, hspe, g3, c3, pk_us]
set_option maxRecDepth 20000 in
theorem ex_29t {st mem outs : Nat → Int32} {iq : TQ} {gv wr : Int32} {b n d s : Nat} (hb : b < 256) (hn : n < 256) (hk : kC b = 29) (hde : b / 4 % 4 = d) (hse : b % 4 = s) (hz : ¬ (st d - 1) &&& 255 = 0) :
    fX2_execute (st, mem, iq, outs, gv, wr) (nI (wd b n false)) = some (upd (upd (upd st 9 ((st 9 + 2) &&& 255)) d ((st d - 1) &&& 255)) 9 (nI n), mem, iq, outs, gv, wr) := by
  have e1 : fX1_kind (nI (wd b n false)) = 29 := kC_7 hb hn hk rfl
  have e2 := w_d (dd := false) hb hn
  have e3 := w_s (dd := false) hb hn
  have e5 := w_n (dd := false) hb hn
  have e6 := w_w (dd := false) hb hn
  generalize nI (wd b n false) = w at e1 e2 e3 e5 e6
  have hd : b / 4 % 4 < 4 := by omega
  have hs : b % 4 < 4 := by omega
  rw [hde] at e2 hd
  rw [hse] at e3 hs
  have c1 : (nI d).toNatClampNeg = d := cl_n (by omega)
  have c2 : (nI s).toNatClampNeg = s := cl_n (by omega)
  have g1 : ∀ {β : Type} (k : Option β), pIn (nI d) 10 k = k := fun k => pIn_n (by omega) (by omega)
  have g2 : ∀ {β : Type} (k : Option β), pIn (nI s) 10 k = k := fun k => pIn_n (by omega) (by omega)
  have f1 : fX1_bytes 29 = 2 := by decide
  have f2 : fX1_makesFlags 29 = 0 := by decide
  have f3 : fX1_endsBlock 29 = 1 := by decide
  have u1 : ∀ x : Int32, upd st 9 x d = st d := fun x => pk_un (by omega)
  have u2 : ∀ x : Int32, upd st 9 x s = st s := fun x => pk_un (by omega)
  simp only [-Int32.reduceToNatClampNeg, pLet_e, pB_e2, fX2_execute_e, fX2_move_e, fX2_move_b187_e, fX2_steer_e, fX2_push_e, fX2_pop_e, fX2_write_e, fX2_give_e, fX2_give_b26_e, fX2_jumpIf_e, fX2_jumpIf_b21_e, fX2_countDown_e, gG_state_t, sG_state_t, gG_memory_t, sG_memory_t, gG_inputs_t, sG_inputs_t, gG_outputs_t, sG_outputs_t, gG_given_t, sG_given_t, gG_written_t, sG_written_t, j0, j1, j2, j3, j4, j5, j6, j7, j8, j9, j10, j11, j12, p10_0, p10_1, p10_2, p10_3, p10_4, p10_5, p10_6, p10_7, p10_8, p10_9, e1, e2, e3, e5, e6, c1, c2, g1, g2, f1, f2, f3, u1, u2, if_true, if_false, ne_29_0, ne_29_1, ne_29_2, ne_29_3, ne_29_4, ne_29_5, ne_29_6, ne_29_7, ne_29_8, ne_29_9, ne_29_10, ne_29_11, ne_29_12, ne_29_13, ne_29_14, ne_29_15, ne_29_16, ne_29_17, ne_29_18, ne_29_19, ne_29_20, ne_29_21, ne_29_22, ne_29_23, ne_29_24, ne_29_25, ne_29_26, ne_29_27, ne_29_28, ne_1_0, pk_us, hz]
set_option maxRecDepth 20000 in
theorem ex_29f {st mem outs : Nat → Int32} {iq : TQ} {gv wr : Int32} {b n d s : Nat} (hb : b < 256) (hn : n < 256) (hk : kC b = 29) (hde : b / 4 % 4 = d) (hse : b % 4 = s) (hz : (st d - 1) &&& 255 = 0) :
    fX2_execute (st, mem, iq, outs, gv, wr) (nI (wd b n false)) = some (upd (upd st 9 ((st 9 + 2) &&& 255)) d ((st d - 1) &&& 255), mem, iq, outs, gv, wr) := by
  have e1 : fX1_kind (nI (wd b n false)) = 29 := kC_7 hb hn hk rfl
  have e2 := w_d (dd := false) hb hn
  have e3 := w_s (dd := false) hb hn
  have e5 := w_n (dd := false) hb hn
  have e6 := w_w (dd := false) hb hn
  generalize nI (wd b n false) = w at e1 e2 e3 e5 e6
  have hd : b / 4 % 4 < 4 := by omega
  have hs : b % 4 < 4 := by omega
  rw [hde] at e2 hd
  rw [hse] at e3 hs
  have c1 : (nI d).toNatClampNeg = d := cl_n (by omega)
  have c2 : (nI s).toNatClampNeg = s := cl_n (by omega)
  have g1 : ∀ {β : Type} (k : Option β), pIn (nI d) 10 k = k := fun k => pIn_n (by omega) (by omega)
  have g2 : ∀ {β : Type} (k : Option β), pIn (nI s) 10 k = k := fun k => pIn_n (by omega) (by omega)
  have f1 : fX1_bytes 29 = 2 := by decide
  have f2 : fX1_makesFlags 29 = 0 := by decide
  have f3 : fX1_endsBlock 29 = 1 := by decide
  have u1 : ∀ x : Int32, upd st 9 x d = st d := fun x => pk_un (by omega)
  have u2 : ∀ x : Int32, upd st 9 x s = st s := fun x => pk_un (by omega)
  simp only [-Int32.reduceToNatClampNeg, pLet_e, pB_e2, fX2_execute_e, fX2_move_e, fX2_move_b187_e, fX2_steer_e, fX2_push_e, fX2_pop_e, fX2_write_e, fX2_give_e, fX2_give_b26_e, fX2_jumpIf_e, fX2_jumpIf_b21_e, fX2_countDown_e, gG_state_t, sG_state_t, gG_memory_t, sG_memory_t, gG_inputs_t, sG_inputs_t, gG_outputs_t, sG_outputs_t, gG_given_t, sG_given_t, gG_written_t, sG_written_t, j0, j1, j2, j3, j4, j5, j6, j7, j8, j9, j10, j11, j12, p10_0, p10_1, p10_2, p10_3, p10_4, p10_5, p10_6, p10_7, p10_8, p10_9, e1, e2, e3, e5, e6, c1, c2, g1, g2, f1, f2, f3, u1, u2, if_true, if_false, ne_29_0, ne_29_1, ne_29_2, ne_29_3, ne_29_4, ne_29_5, ne_29_6, ne_29_7, ne_29_8, ne_29_9, ne_29_10, ne_29_11, ne_29_12, ne_29_13, ne_29_14, ne_29_15, ne_29_16, ne_29_17, ne_29_18, ne_29_19, ne_29_20, ne_29_21, ne_29_22, ne_29_23, ne_29_24, ne_29_25, ne_29_26, ne_29_27, ne_29_28, ne_1_0, pk_us, hz]

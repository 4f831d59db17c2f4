theorem j0 : (0 : Int32).toNatClampNeg = 0 := by decide
theorem j1 : (1 : Int32).toNatClampNeg = 1 := by decide
theorem j2 : (2 : Int32).toNatClampNeg = 2 := by decide
theorem j3 : (3 : Int32).toNatClampNeg = 3 := by decide
theorem j4 : (4 : Int32).toNatClampNeg = 4 := by decide
theorem j5 : (5 : Int32).toNatClampNeg = 5 := by decide
theorem j6 : (6 : Int32).toNatClampNeg = 6 := by decide
theorem j7 : (7 : Int32).toNatClampNeg = 7 := by decide
theorem j8 : (8 : Int32).toNatClampNeg = 8 := by decide
theorem j9 : (9 : Int32).toNatClampNeg = 9 := by decide
theorem j10 : (10 : Int32).toNatClampNeg = 10 := by decide
theorem j11 : (11 : Int32).toNatClampNeg = 11 := by decide
theorem j12 : (12 : Int32).toNatClampNeg = 12 := by decide
theorem p10_0 {β : Type} {k : Option β} : pIn (0 : Int32) 10 k = k := pIn_l (by decide)
theorem p10_1 {β : Type} {k : Option β} : pIn (1 : Int32) 10 k = k := pIn_l (by decide)
theorem p10_2 {β : Type} {k : Option β} : pIn (2 : Int32) 10 k = k := pIn_l (by decide)
theorem p10_3 {β : Type} {k : Option β} : pIn (3 : Int32) 10 k = k := pIn_l (by decide)
theorem p10_4 {β : Type} {k : Option β} : pIn (4 : Int32) 10 k = k := pIn_l (by decide)
theorem p10_5 {β : Type} {k : Option β} : pIn (5 : Int32) 10 k = k := pIn_l (by decide)
theorem p10_6 {β : Type} {k : Option β} : pIn (6 : Int32) 10 k = k := pIn_l (by decide)
theorem p10_7 {β : Type} {k : Option β} : pIn (7 : Int32) 10 k = k := pIn_l (by decide)
theorem p10_8 {β : Type} {k : Option β} : pIn (8 : Int32) 10 k = k := pIn_l (by decide)
theorem p10_9 {β : Type} {k : Option β} : pIn (9 : Int32) 10 k = k := pIn_l (by decide)
theorem p12_0 {β : Type} {k : Option β} : pIn (0 : Int32) 12 k = k := pIn_l (by decide)
theorem p12_1 {β : Type} {k : Option β} : pIn (1 : Int32) 12 k = k := pIn_l (by decide)
theorem p12_2 {β : Type} {k : Option β} : pIn (2 : Int32) 12 k = k := pIn_l (by decide)
theorem p12_3 {β : Type} {k : Option β} : pIn (3 : Int32) 12 k = k := pIn_l (by decide)
theorem p12_4 {β : Type} {k : Option β} : pIn (4 : Int32) 12 k = k := pIn_l (by decide)
theorem p12_5 {β : Type} {k : Option β} : pIn (5 : Int32) 12 k = k := pIn_l (by decide)
theorem p12_6 {β : Type} {k : Option β} : pIn (6 : Int32) 12 k = k := pIn_l (by decide)
theorem p12_7 {β : Type} {k : Option β} : pIn (7 : Int32) 12 k = k := pIn_l (by decide)
theorem p12_8 {β : Type} {k : Option β} : pIn (8 : Int32) 12 k = k := pIn_l (by decide)
theorem p12_9 {β : Type} {k : Option β} : pIn (9 : Int32) 12 k = k := pIn_l (by decide)
theorem p12_10 {β : Type} {k : Option β} : pIn (10 : Int32) 12 k = k := pIn_l (by decide)
theorem p12_11 {β : Type} {k : Option β} : pIn (11 : Int32) 12 k = k := pIn_l (by decide)
theorem pB_so {α β : Type} (a : α) (k : α → Option β) : pB (some a) k = k a := rfl
theorem kC_7 {b n : Nat} {dd : Bool} (hb : b < 256) (hn : n < 256) {K : Nat} (hk : kC b = K) {x : Int32} (hx : nI K = x) : fX1_kind (nI (wd b n dd)) = x := by rw [w_kind hb hn, hk, hx]
set_option maxRecDepth 20000 in
/-- one instruction: ADD, to see how it goes -/
theorem ex_7 {st mem outs : Nat → Int32} {iq : TQ} {gv wr : Int32} {b n : Nat} (hb : b < 256) (hn : n < 256) (hk : kC b = 7) :
    fX2_execute (st, mem, iq, outs, gv, wr) (nI (wd b n false)) = some (upd (upd (upd (upd (upd st 9 ((st 9 + 1) &&& 255)) (b / 4 % 4) ((st (b / 4 % 4) + st (b % 4)) &&& 255)) 5 (if (st (b / 4 % 4) + st (b % 4)) &&& 255 = 0 then 1 else 0)) 6 (((st (b / 4 % 4) + st (b % 4)) >>> ((8 : Int32) &&& 31)) &&& 1)) 7 (((st (b / 4 % 4) + st (b % 4)) >>> ((7 : Int32) &&& 31)) &&& 1), mem, iq, outs, gv, wr) := by
  have e1 : fX1_kind (nI (wd b n false)) = 7 := kC_7 hb hn hk rfl
  have e2 := w_d (dd := false) hb hn
  have e3 := w_s (dd := false) hb hn
  have e4 : fX1_isDead (nI (wd b n false)) = 0 := w_dead (dd := false) hb hn
  generalize nI (wd b n false) = w at e1 e2 e3 e4
  have hd : b / 4 % 4 < 4 := by omega
  have hs : b % 4 < 4 := by omega
  generalize b / 4 % 4 = d at e2 hd
  generalize b % 4 = s at e3 hs
  have c1 : (nI d).toNatClampNeg = d := cl_n (by omega)
  have c2 : (nI s).toNatClampNeg = s := cl_n (by omega)
  have u1 : upd st 9 ((st 9 + 1) &&& 255) d = st d := pk_un (by omega)
  have u2 : upd st 9 ((st 9 + 1) &&& 255) s = st s := pk_un (by omega)
  have f1 : fX1_bytes 7 = 1 := by decide
  have f2 : fX1_makesFlags 7 = 1 := by decide
  have f3 : fX1_onlyCompares 7 = 0 := by decide
  have g1 : ∀ {β : Type} (k : Option β), pIn (nI d) 10 k = k := fun k => pIn_n (by omega) (by omega)
  have g2 : ∀ {β : Type} (k : Option β), pIn (nI s) 10 k = k := fun k => pIn_n (by omega) (by omega)
  rw [fX2_execute]
  dsimp only [pLet, gG_state, sG_state]
  simp only [-Int32.reduceToNatClampNeg, e1, f1, f2, p10_9, j9, if_neg (show ¬ (1 : Int32) = 0 by decide)]
  rw [fX2_calculate]
  dsimp only [pLet]
  simp only [-Int32.reduceToNatClampNeg, e4, f3, if_true]
  rw [fX2_calculate_b21]
  dsimp only [pLet, gG_state]
  simp only [-Int32.reduceToNatClampNeg, e2, g1, c1, u1, f1, if_neg (show ¬ (1 : Int32) = 2 by decide), e3, g2, c2, u2]
  rw [fX2_calculate_b56, fX2_resultWithCarry]
  dsimp only [pLet]
  simp only [-Int32.reduceToNatClampNeg, if_true, pB_so, e2, g1, c1]
  rw [fX2_calculate_b89, fX2_makeFlags]
  dsimp only [sG_state, gG_state]
  simp only [if_true]
  by_cases hz : (st d + st s) &&& 255 = 0
  · simp only [hz, if_true]
    rw [fX2_makeFlags_b18]
    dsimp only [pLet, gG_state, sG_state]
    simp only [-Int32.reduceToNatClampNeg, p10_5, p10_6, p10_7, j5, j6, j7, pB_so]
  · simp only [hz, if_false]
    rw [fX2_makeFlags_b18]
    dsimp only [pLet, gG_state, sG_state]
    simp only [-Int32.reduceToNatClampNeg, p10_5, p10_6, p10_7, j5, j6, j7, pB_so]
